/** Promises 1 to 3: a new object, feed, end. */
public final class TapeTest {
  private static void newObject() {
    WinterToys toys = new WinterToys();
    for (int what = 0; what <= 6; what++) {
      Check.due("1: all(" + what + ")", toys.all(what), 0);
    }
    Check.due("1: all(7)", toys.all(7), 1000);
    Check.due("1: fault(0)", toys.fault(0), 0);
    Check.due("1: fault(1)", toys.fault(1), Check.NONE);
    Check.due("1: given(0)", toys.given(0), Check.NONE);
    Check.due("1: at(0)", toys.at(0), Check.NONE);
    Check.due("1: give()", toys.give(), 0);
    Check.due("1: blind()", toys.blind(), 0);
    Check.due("1: feed", toys.feed(0, 0, 0, 0, 0), 20);
  }

  private static void withoutRules() {
    WinterToys toys = new WinterToys();
    Check.due("1: report", Check.report(toys, "doll", 0, 1, 2, 3, 4), 1);
    Check.due("1: gifts", toys.gifts(0, 1, 1), Check.NONE);
    Check.due("1: DUE", toys.of(0, 9), 1);
    Check.due("1: give()", toys.give(), 0);
    Check.due("1: given(2)", toys.given(2), 1);
    Check.due("1: price", toys.price(0), Check.NONE);
  }

  private static void feeding() {
    WinterToys toys = new WinterToys();
    for (int i = 1; i <= 50; i++) {
      Check.due("2: feed " + i, toys.feed(538976288, 538976288, 538976288, 538976288, 538976288), i * 20);
    }
    Check.due("2: feed 51", toys.feed(0, 0, 0, 0, 0), Check.NONE);
    Check.due("2: all are blanks still", toys.rules(), 0);
    Check.due("2: the tape went", toys.feed(0, 0, 0, 0, 0), 20);
    WinterToys full = new WinterToys();
    for (int i = 1; i <= 50; i++) {
      full.feed(0, 0, 0, 0, 0);
    }
    Check.due("2: end(981)", full.end(981), true);
    Check.due("2: feed behind 981", full.feed(0, 0, 0, 0, 0), Check.NONE);
    Check.due("2: end(980)", full.end(980), true);
    Check.due("2: feed behind 980", full.feed(0, 0, 0, 0, 0), 1000);
  }

  /** The highest byte comes first, and bytes above 127 are bytes as well. */
  private static void order() {
    WinterToys toys = new WinterToys();
    int blanks = 0x20202020;
    Check.due("2: feed", toys.feed(0x6576656e, 0x20373b20, blanks, blanks, 0x202020ff), 20);
    Check.due("2: the last byte", toys.rules(), Check.NONE);
    Check.due("2: its place", toys.fault(1), 19);
    toys.feed(0x6576656e, 0x20373b20, blanks, blanks, blanks);
    Check.due("2: even 7;", toys.rules(), 1);
    Check.due("2: EVEN", toys.all(7), 7);
  }

  private static void ending() {
    WinterToys toys = new WinterToys();
    Check.due("3: end(0) of nothing", toys.end(0), true);
    Check.due("3: end(1) of nothing", toys.end(1), false);
    toys.feed(0, 0, 0, 0, 0);
    Check.due("3: end(-1)", toys.end(-1), false);
    Check.due("3: end(least)", toys.end(Integer.MIN_VALUE), false);
    Check.due("3: end(21)", toys.end(21), false);
    Check.due("3: end(most)", toys.end(Integer.MAX_VALUE), false);
    Check.due("3: refused ones did nothing", toys.feed(0, 0, 0, 0, 0), 40);
    Check.due("3: end(40)", toys.end(40), true);
    Check.due("3: end(39)", toys.end(39), true);
    Check.due("3: end(40) behind it", toys.end(40), false);
    Check.due("3: feed behind 39", toys.feed(0, 0, 0, 0, 0), 59);
    Check.due("3: end(0)", toys.end(0), true);
    Check.due("3: feed behind 0", toys.feed(0, 0, 0, 0, 0), 20);
  }

  public static void main(String[] args) {
    newObject();
    withoutRules();
    feeding();
    order();
    ending();
    Check.finish("TapeTest");
  }
}
