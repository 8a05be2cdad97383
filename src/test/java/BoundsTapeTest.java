/** The bounds that the document names for an object and its tape (promises 1 to 3), one method for each sentence. */
public final class BoundsTapeTest {
  private static final int BLANKS = 0x20202020;
  private static final int ZEROS = 0x30303030;

  private static int feedBlanks(WinterToys toys) {
    return toys.feed(BLANKS, BLANKS, BLANKS, BLANKS, BLANKS);
  }

  /** "No RULES, no ACTS.": what needs one of them is refused, and nothing is due but what holds without any. */
  private static void nothingIsThere() {
    WinterToys toys = new WinterToys();
    int[] all = {0, 0, 0, 0, 0, 0, 0, 1000};
    for (int what = 0; what < all.length; what++) {
      Check.due("1: all(" + what + ")", toys.all(what), all[what]);
    }
    Check.due("1: name of a KIND", toys.name(false, 0, 0), Check.NONE);
    Check.due("1: name of a MARK", toys.name(true, 0, 0), Check.NONE);
    Check.due("1: marked", toys.marked(0, 0), Check.NONE);
    Check.due("1: fault(0)", toys.fault(0), 0);
    Check.due("1: fault(1)", toys.fault(1), Check.NONE);
    Check.due("1: gifts", toys.gifts(0, 1, 1), Check.NONE);
    Check.due("1: call", toys.call(0, 1), Check.NONE);
    Check.due("1: annul(0)", toys.annul(0), Check.NONE);
    Check.due("1: annul(1)", toys.annul(1), Check.NONE);
    Check.due("1: as(1)", toys.as(1), false);
    Check.due("1: as(0)", toys.as(0), true);
    Check.due("1: as(NONE)", toys.as(Check.NONE), true);
    Check.due("1: child(0)", toys.child(0), Check.NONE);
    Check.due("1: child(1)", toys.child(1), Check.NONE);
    Check.due("1: of", toys.of(0, 0), Check.NONE);
    Check.due("1: wish", toys.wish(0, 0, 0), Check.NONE);
    Check.due("1: may", toys.may(0, 0), Check.NONE);
    Check.due("1: points", toys.points(0, 0), -2000000000);
    Check.due("1: blind()", toys.blind(), 0);
    Check.due("1: at(0)", toys.at(0), Check.NONE);
    Check.due("1: end(0)", toys.end(0), true);
    Check.due("1: end(1)", toys.end(1), false);
    Check.due("1: the tape is empty", toys.feed(0, 0, 0, 0, 0), 20);
  }

  /** No RULES are none of KINDS alone: children are reported, and one gift is due to each. */
  private static void childrenWithoutRules() {
    WinterToys toys = new WinterToys();
    Check.due("1: report", toys.report(1, 2, 3, 4, 5), 1);
    Check.due("1: DUE", toys.of(0, 9), 1);
    Check.due("1: may", toys.may(0, 0), Check.NONE);
    Check.due("1: points", toys.points(0, 0), -2000000000);
    Check.due("1: give()", toys.give(), 0);
    Check.due("1: gifts that lack", toys.given(2), 1);
    Check.due("1: left", toys.left(0), Check.NONE);
    Check.due("1: gets", toys.gets(0), 0);
    Check.due("1: price", toys.price(0), Check.NONE);
    Check.due("1: spend", toys.spend(100000), 0);
  }

  /** "NONE, doing nothing, if there would be more than 1000": 1000 may be, 1001 (981 and twenty) not. */
  private static void thousandBytes() {
    WinterToys toys = new WinterToys();
    for (int i = 1; i <= 50; i++) {
      Check.due("2: feed " + i, feedBlanks(toys), i * 20);
    }
    Check.due("2: beyond 1000", toys.feed(ZEROS, ZEROS, ZEROS, ZEROS, ZEROS), Check.NONE);
    Check.due("2: end(1001)", toys.end(1001), false);
    Check.due("2: end(1000)", toys.end(1000), true);
    Check.due("2: end(981)", toys.end(981), true);
    Check.due("2: 1001 would be", toys.feed(ZEROS, ZEROS, ZEROS, ZEROS, ZEROS), Check.NONE);
    Check.due("2: it did nothing", toys.end(982), false);
    Check.due("2: end(980)", toys.end(980), true);
    Check.due("2: just 1000", feedBlanks(toys), 1000);
    Check.due("2: all are blanks, so none of the refused ones is there", toys.rules(), 0);
    Check.due("2: no fault", toys.fault(0), 0);
  }

  /** The last of 1000 bytes is read like any other. */
  private static void lastByte() {
    WinterToys toys = new WinterToys();
    for (int i = 1; i < 50; i++) {
      feedBlanks(toys);
    }
    Check.due("2: feed 50", toys.feed(BLANKS, BLANKS, 0x20202065, 0x76656e20, 0x2020373b), 1000);
    Check.due("4: a statement at the tape's end", toys.rules(), 1);
    Check.due("13: EVEN", toys.all(7), 7);
    for (int i = 1; i < 50; i++) {
      feedBlanks(toys);
    }
    Check.due("2: feed 50", toys.feed(BLANKS, BLANKS, BLANKS, 0x6576656e, 0x20202037), 1000);
    Check.due("4: a statement without its end", toys.rules(), -1);
    Check.due("5: FAULT", toys.fault(0), 1);
    Check.due("5: at the text's length", toys.fault(1), 1000);
    for (int i = 1; i < 50; i++) {
      feedBlanks(toys);
    }
    Check.due("2: feed 50", toys.feed(BLANKS, BLANKS, BLANKS, BLANKS, 0x20202058), 1000);
    Check.due("4: a byte that can't be", toys.rules(), -1);
    Check.due("5: at the last byte", toys.fault(1), 999);
  }

  /** "of each number the highest first": the bytes of five numbers, the outermost bits with them. */
  private static void highestFirst() {
    int[] words = {0x00202020, 0x20002020, 0x20200020, 0x20202000, 0x80202020, 0x20ff2020, 0x20208020, 0x202020ff};
    for (int i = 0; i < 5; i++) {
      for (int j = 0; j < words.length; j++) {
        int[] n = {BLANKS, BLANKS, BLANKS, BLANKS, BLANKS};
        n[i] = words[j];
        WinterToys toys = new WinterToys();
        Check.due("2: feed", toys.feed(n[0], n[1], n[2], n[3], n[4]), 20);
        Check.due("4: a byte that can't be", toys.rules(), -1);
        Check.due("5: number " + i + ", byte " + j % 4, toys.fault(1), i * 4 + j % 4);
      }
    }
  }

  /** "The tape has its first n bytes alone": of none, of some, of all. */
  private static void firstBytesAlone() {
    WinterToys toys = new WinterToys();
    Check.due("3: end(0) of nothing", toys.end(0), true);
    toys.feed(0x6576656e, 0x20373b45, BLANKS, BLANKS, BLANKS);
    Check.due("3: end(20), all of them", toys.end(20), true);
    Check.due("3: end(20) again", toys.end(20), true);
    Check.due("3: end(7)", toys.end(7), true);
    Check.due("3: even 7;", toys.rules(), 1);
    Check.due("3: EVEN", toys.all(7), 7);
    toys.feed(0x6576656e, 0x20373b45, BLANKS, BLANKS, BLANKS);
    toys.end(8);
    Check.due("3: one byte more", toys.rules(), -1);
    Check.due("3: its place", toys.fault(1), 7);
    toys.feed(0x6576656e, 0x20373b45, BLANKS, BLANKS, BLANKS);
    toys.end(6);
    Check.due("3: one byte less", toys.rules(), -1);
    Check.due("3: its place", toys.fault(1), 6);
    toys.feed(0x6576656e, 0x20373b45, BLANKS, BLANKS, BLANKS);
    Check.due("3: end(0)", toys.end(0), true);
    Check.due("3: nothing is left", toys.rules(), 0);
  }

  /** "false, doing nothing, if it has not so many, or n is below 0." */
  private static void endRefused() {
    WinterToys toys = new WinterToys();
    Check.due("3: end(1) of nothing", toys.end(1), false);
    Check.due("3: end(-1) of nothing", toys.end(-1), false);
    toys.feed(0x6576656e, 0x20393b20, BLANKS, BLANKS, BLANKS);
    for (int n : new int[] {21, 1000, 1001, Integer.MAX_VALUE, -1, -20, Integer.MIN_VALUE}) {
      Check.due("3: end(" + n + ")", toys.end(n), false);
    }
    Check.due("3: twenty are there still", toys.feed(BLANKS, BLANKS, BLANKS, BLANKS, BLANKS), 40);
    Check.due("3: as they were", toys.rules(), 1);
    Check.due("3: EVEN", toys.all(7), 9);
    Check.due("3: bytes that went can't come back", toys.end(1), false);
  }

  /** What one object is told, another one does not know. */
  private static void twoObjects() {
    WinterToys one = Check.barn("kind a worth 1 price 0 at 0;even 7;");
    WinterToys other = new WinterToys();
    Check.text(one, "doll");
    Check.due("2: another tape", other.end(1), false);
    Check.due("8: report", one.report(1, 2, 3, 4, 5), 1);
    Check.due("19: give()", one.give(), 0);
    int[] all = {0, 0, 0, 0, 0, 0, 0, 1000};
    for (int what = 0; what < all.length; what++) {
      Check.due("1: all(" + what + ") of the other one", other.all(what), all[what]);
    }
    Check.due("20: no give()", other.given(0), Check.NONE);
    Check.due("8: its own first ACT", other.report(9, 9, 9, 9, 9), 1);
    Check.due("15: AGE", one.of(0, 1), 2);
  }

  /** "An object is used for at most 512 calls": the last of them is answered as the first one. */
  private static void lastCall() {
    WinterToys toys = new WinterToys();
    Check.due("feed", toys.feed(0x6576656e, 0x20393b20, BLANKS, BLANKS, BLANKS), 20);
    for (int call = 2; call <= 510; call++) {
      Check.due("call " + call, toys.end(call % 2 == 0 ? 20 : 21), call % 2 == 0);
    }
    Check.due("call 511", toys.rules(), 1);
    Check.due("call 512", toys.all(7), 9);
  }

  public static void main(String[] args) {
    nothingIsThere();
    childrenWithoutRules();
    thousandBytes();
    lastByte();
    highestFirst();
    firstBytesAlone();
    endRefused();
    twoObjects();
    lastCall();
    Check.finish("BoundsTapeTest");
  }
}
