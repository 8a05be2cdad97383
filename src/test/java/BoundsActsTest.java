/** The bounds that the document names for acts (Terms, II; promises 8 to 13), a method for each sentence. */
public final class BoundsActsTest {
  private static final String KINDS = "kind a worth 1 price 0 at 0;kind b worth 1 price 0 at 0 is m;";
  private static final int LEAST = Integer.MIN_VALUE;
  private static final int MOST = Integer.MAX_VALUE;

  /** A number of a report: the least and the greatest that can be, and those beyond. */
  private static void reportNumber(String what, int i, int least, int most) {
    WinterToys toys = new WinterToys();
    int[] can = {least, least + 1, most - 1, most};
    int[] cannot = {least - 1, most + 1, LEAST, MOST, least - 65536, most + 65536};
    int act = 0;
    for (int n : can) {
      int[] r = {0, 5, 5, 5, 5};
      r[i] = n;
      act++;
      Check.due("8: " + what + " " + n, toys.report(r[0], r[1], r[2], r[3], r[4]), act);
      Check.due("15: " + what + " " + n, toys.of(toys.child(act), new int[] {0, 1, 3, 4, 5}[i]), n);
    }
    for (int n : cannot) {
      int[] r = {0, 5, 5, 5, 5};
      r[i] = n;
      Check.due("8: " + what + " " + n, toys.report(r[0], r[1], r[2], r[3], r[4]), Check.NONE);
      Check.due("8: it is no ACT", toys.all(3), act);
    }
  }

  /** "CODE (0 .. 9999 ..), AGE (0 .. 17), SCHOOL (0 .. 99), HOUSE (0 .. 999 ..), DAY (1 .. 24)". */
  private static void reportNumbers() {
    reportNumber("CODE", 0, 0, 9999);
    reportNumber("AGE", 1, 0, 17);
    reportNumber("SCHOOL", 2, 0, 99);
    reportNumber("HOUSE", 3, 0, 999);
    reportNumber("DAY", 4, 1, 24);
  }

  /** "ACTS, numbered from 1 on (200 at most)": of each sort the 200th, and none beyond it. */
  private static void twoHundredActs() {
    for (int last = 0; last < 4; last++) {
      WinterToys toys = Check.barn(KINDS);
      for (int i = 1; i <= 199; i++) {
        Check.due("9: ACT " + i, toys.gifts(0, 1, 1), i);
      }
      Check.due("the 200th, sort " + last, act(toys, last), 200);
      for (int more = 0; more < 4; more++) {
        Check.due("the 201st, sort " + more, act(toys, more), Check.NONE);
      }
      Check.due("13: ACTS", toys.all(3), 200);
      Check.due("12: as(200)", toys.as(200), true);
      Check.due("12: as(201)", toys.as(201), false);
      Check.due("13: as known at", toys.all(4), 200);
    }
  }

  private static int act(WinterToys toys, int sort) {
    switch (sort) {
      case 0: return toys.report(0, 1, 1, 1, 1);
      case 1: return toys.gifts(1, 1, 1);
      case 2: return toys.call(1, 1);
      default: return toys.annul(7);
    }
  }

  /** What the 200th act tells counts. */
  private static void lastActCounts() {
    WinterToys toys = Check.barn(KINDS);
    Check.due("8: report", toys.report(0, 1, 1, 1, 24), 1);
    for (int i = 2; i <= 199; i++) {
      toys.gifts(1, 24, 99);
    }
    Check.due("9: gifts", toys.gifts(0, 24, 99), 200);
    Check.due("19: give()", toys.give(), 1);
    Check.due("21: the first KIND", toys.gets(0), 1);
    Check.due("22: left of it", toys.left(0), 98);
    Check.due("22: left of the other one", toys.left(1), 198 * 99);
    Check.due("20: left in all", toys.given(3), 199 * 99 - 1);
    toys.as(199);
    toys.give();
    Check.due("21: ahead of it", toys.gets(0), 2);
  }

  /** "80 REPORTS at most": the 81st is refused, also when others were void, or are not known. */
  private static void eightyReports() {
    WinterToys toys = Check.barn(KINDS);
    for (int i = 1; i <= 80; i++) {
      Check.due("8: REPORT " + i, toys.report(i % 30, 1, 1, 1, 1), i);
    }
    Check.text(toys, "x");
    Check.due("8: REPORT 81", toys.report(1, 1, 1, 1, 1), Check.NONE);
    Check.due("8: the tape goes", toys.end(1), false);
    Check.due("9: other acts go on", toys.gifts(0, 1, 1), 81);
    Check.due("11: annul", toys.annul(80), 82);
    Check.due("8: REPORT 81 behind it", toys.report(1, 1, 1, 1, 1), Check.NONE);
    toys.as(0);
    Check.due("8: REPORT 81 as known at 0", toys.report(1, 1, 1, 1, 1), Check.NONE);
    Check.due("13: ACTS", toys.all(3), 82);
    Check.due("4: rules()", Check.rules(toys, KINDS), 2);
    Check.due("8: the first anew", toys.report(1, 1, 1, 1, 1), 1);
  }

  /** Refused ones are not counted among the 80. */
  private static void refusedReports() {
    WinterToys toys = Check.barn(KINDS);
    for (int i = 1; i <= 79; i++) {
      toys.report(0, 1, 1, 1, 1);
      Check.due("8: refused", toys.report(0, 18, 1, 1, 1), Check.NONE);
    }
    Check.due("8: REPORT 80", toys.report(0, 1, 1, 1, 1), 80);
    Check.due("8: REPORT 81", toys.report(0, 1, 1, 1, 1), Check.NONE);
  }

  /** "up to 3 WORDS that are no OWN WORDS, with blanks between and where one likes". */
  private static void wishesOfReports() {
    String[] can = {"", " ", "\n", "a", "a b", "a b c", "abcdefgh abcdefgi abcdefgj", " \n a\n\nb \n c\n ", "a a a"};
    int[] told = {0, 0, 0, 1, 2, 3, 3, 3, 1};
    WinterToys toys = new WinterToys();
    for (int i = 0; i < can.length; i++) {
      Check.due("8: wishes " + can[i], Check.report(toys, can[i], 0, 1, 1, 1, 1), i + 1);
      Check.due("15: wishes of " + can[i], toys.of(i, 6), told[i]);
    }
    String[] cannot = {"a b c d", "a a a a", "a b c abcdefghi", "abcdefghi", "a b abcdefghi", "A", "a`", "{", "a 5",
      "5", "a5", "5a", "a,b", "a;", "a\tb", "a\u0000", "\r", "a b c\u00e9", "a b c 5"};
    for (String text : cannot) {
      Check.due("8: wishes " + text, Check.report(toys, text, 0, 1, 1, 1, 1), Check.NONE);
      Check.due("8: the tape goes", toys.end(1), false);
    }
    Check.due("13: ACTS", toys.all(3), can.length);
  }

  /** None of the own words is a wish, in none of the three places. */
  private static void ownWordsAreNoWishes() {
    WinterToys toys = new WinterToys();
    for (String own : Model.OWN) {
      Check.due("8: wish " + own, Check.report(toys, own, 0, 1, 1, 1, 1), Check.NONE);
      Check.due("8: second wish " + own, Check.report(toys, "a " + own, 0, 1, 1, 1, 1), Check.NONE);
      Check.due("8: third wish " + own, Check.report(toys, "a b " + own, 0, 1, 1, 1, 1), Check.NONE);
    }
    Check.due("13: ACTS", toys.all(3), 0);
    Check.due("8: wishesx", Check.report(toys, "wishesx ag al", 0, 1, 1, 1, 1), 1);
  }

  /** "(it goes, in any case)": the tape goes with each report, whatever refuses it. */
  private static void tapeGoes() {
    WinterToys toys = new WinterToys();
    int[][] reports = {{0, 1, 1, 1, 1}, {-1, 1, 1, 1, 1}, {0, 18, 1, 1, 1}, {0, 1, 100, 1, 1}, {0, 1, 1, 1000, 1},
      {0, 1, 1, 1, 0}, {0, 1, 1, 1, 25}};
    for (int[] r : reports) {
      Check.text(toys, "x");
      toys.report(r[0], r[1], r[2], r[3], r[4]);
      Check.due("8: nothing is on the tape", toys.end(1), false);
      Check.due("8: a REPORT without wishes", toys.report(0, 1, 1, 1, 1) > 0, true);
      Check.due("15: wishes", toys.of(toys.all(5) - 1, 6), 0);
    }
  }

  /** A tape as long as it can be is read to its end. */
  private static void longTape() {
    WinterToys toys = new WinterToys();
    Check.due("8: x at its end", Check.report(toys, " ".repeat(999) + "x", 0, 1, 1, 1, 1), 1);
    Check.same("16: x", Check.wish(toys, 0, 0), "x");
    Check.due("8: 5 at its end", Check.report(toys, " ".repeat(999) + "5", 0, 1, 1, 1, 1), Check.NONE);
    Check.due("8: blanks", Check.report(toys, " ".repeat(1000), 0, 1, 1, 1, 1), 2);
  }

  /** "GIFTS of a KIND that come on a DAY (1 .. 24), so many (1 .. 99)": "NONE likewise". */
  private static void giftsNumbers() {
    WinterToys toys = Check.barn(KINDS);
    int[][] can = {{0, 1, 1}, {1, 1, 1}, {0, 24, 1}, {0, 1, 99}, {1, 24, 99}};
    for (int i = 0; i < can.length; i++) {
      Check.due("9: gifts " + i, toys.gifts(can[i][0], can[i][1], can[i][2]), i + 1);
    }
    int[][] cannot = {{-1, 1, 1}, {2, 1, 1}, {LEAST, 1, 1}, {MOST, 1, 1}, {10, 1, 1}, {0, 0, 1}, {0, 25, 1},
      {0, -1, 1}, {0, LEAST, 1}, {0, MOST, 1}, {0, 1, 0}, {0, 1, 100}, {0, 1, -1}, {0, 1, LEAST}, {0, 1, MOST}};
    for (int[] n : cannot) {
      Check.due("9: gifts(" + n[0] + ", " + n[1] + ", " + n[2] + ")", toys.gifts(n[0], n[1], n[2]), Check.NONE);
    }
    Check.due("13: ACTS", toys.all(3), can.length);
    toys.give();
    Check.due("22: left(0)", toys.left(0), 101);
    Check.due("22: left(1)", toys.left(1), 100);
  }

  /** "a CALL: from a DAY on ..": "NONE likewise". */
  private static void callNumbers() {
    WinterToys toys = Check.barn(KINDS);
    int[][] can = {{0, 1}, {1, 1}, {0, 24}, {1, 24}, {1, 24}};
    for (int i = 0; i < can.length; i++) {
      Check.due("10: call " + i, toys.call(can[i][0], can[i][1]), i + 1);
    }
    int[][] cannot = {{-1, 1}, {2, 1}, {LEAST, 1}, {MOST, 1}, {10, 1}, {0, 0}, {0, 25}, {0, -1}, {0, LEAST}, {0, MOST}};
    for (int[] n : cannot) {
      Check.due("10: call(" + n[0] + ", " + n[1] + ")", toys.call(n[0], n[1]), Check.NONE);
    }
    Check.due("13: ACTS", toys.all(3), can.length);
  }

  /** The last of ten kinds is one; there is no eleventh, nor any without rules. */
  private static void lastKind() {
    StringBuilder text = new StringBuilder();
    for (int i = 0; i < 10; i++) {
      text.append("kind ").append((char) ('a' + i)).append(" worth 1 price 0 at 0;");
    }
    WinterToys toys = Check.barn(text.toString());
    Check.due("9: KIND 9", toys.gifts(9, 1, 1), 1);
    Check.due("9: KIND 10", toys.gifts(10, 1, 1), Check.NONE);
    Check.due("10: KIND 9", toys.call(9, 1), 2);
    Check.due("10: KIND 10", toys.call(10, 1), Check.NONE);
    WinterToys none = new WinterToys();
    Check.due("9: without KINDS", none.gifts(0, 1, 1), Check.NONE);
    Check.due("10: without KINDS", none.call(0, 1), Check.NONE);
  }

  /** "NONE if there is none such, it is VOID or tells so, or there are 200." */
  private static void annulRefused() {
    WinterToys toys = Check.barn(KINDS);
    Check.due("11: annul(1) without acts", toys.annul(1), Check.NONE);
    toys.report(1, 1, 1, 1, 1);
    toys.gifts(0, 1, 1);
    toys.call(0, 1);
    for (int act : new int[] {0, -1, 4, LEAST, MOST}) {
      Check.due("11: annul(" + act + ")", toys.annul(act), Check.NONE);
    }
    for (int act = 1; act <= 3; act++) {
      Check.due("11: annul(" + act + ")", toys.annul(act), 3 + act);
      Check.due("11: it is VOID", toys.annul(act), Check.NONE);
      Check.due("11: it tells so", toys.annul(3 + act), Check.NONE);
    }
    Check.due("11: there is no 7", toys.annul(7), Check.NONE);
    Check.due("13: ACTS", toys.all(3), 6);
    Check.due("9: what comes again is a new ACT", toys.gifts(0, 1, 1), 7);
    Check.due("11: annul(7)", toys.annul(7), 8);
  }

  /** "or there are 200": the 200th may be a void, of the 199th, too; then none. */
  private static void annulLast() {
    WinterToys toys = Check.barn(KINDS);
    for (int i = 1; i <= 199; i++) {
      toys.gifts(0, 1, 1);
    }
    Check.due("11: annul(199)", toys.annul(199), 200);
    Check.due("11: annul(198)", toys.annul(198), Check.NONE);
    toys.give();
    Check.due("22: left", toys.left(0), 198);
  }

  /** What is void, or not known, is none the less an act: it is looked at whatever as() says. */
  private static void annulAsKnown() {
    WinterToys toys = Check.barn(KINDS);
    toys.gifts(0, 1, 1);
    toys.gifts(0, 1, 1);
    toys.as(0);
    Check.due("11: annul(2), not known", toys.annul(2), 3);
    Check.due("11: annul(2) again", toys.annul(2), Check.NONE);
    toys.as(2);
    Check.due("11: VOID, though not by 2", toys.annul(2), Check.NONE);
  }

  /** "ACTS up to n that are not VOID by n": at each n, of an act and its void. */
  private static void voidByThen() {
    WinterToys toys = Check.barn(KINDS);
    toys.gifts(0, 1, 5);
    toys.report(7, 1, 1, 1, 1);
    toys.call(1, 1);
    Check.due("11: annul(2)", toys.annul(2), 4);
    toys.annul(1);
    toys.annul(3);
    int[] children = {0, 0, 1, 1, 0, 0, 0};
    int[] left = {0, 5, 4, 4, 5, 0, 0};
    for (int n = 0; n <= 6; n++) {
      Check.due("12: as(" + n + ")", toys.as(n), true);
      Check.due("13: CHILDREN at " + n, toys.all(5), children[n]);
      Check.due("14: child(2) at " + n, toys.child(2), children[n] - 1);
      Check.due("17: may at " + n, toys.may(0, 1), n == 2 ? 1 : n == 3 ? 0 : Check.NONE);
      toys.give();
      Check.due("22: left at " + n, toys.left(0), left[n]);
    }
  }

  /** "(0: none; NONE: always the last one): true; false if there is none such." */
  private static void asBounds() {
    WinterToys toys = Check.barn(KINDS);
    Check.due("12: as(0) without acts", toys.as(0), true);
    Check.due("12: as(1) without acts", toys.as(1), false);
    Check.due("12: as(NONE) without acts", toys.as(Check.NONE), true);
    toys.report(0, 1, 1, 1, 1);
    toys.report(0, 1, 1, 1, 1);
    Check.due("12: as(2)", toys.as(2), true);
    Check.due("12: as(1)", toys.as(1), true);
    for (int act : new int[] {3, 4, -2, -3, LEAST, MOST}) {
      Check.due("12: as(" + act + ")", toys.as(act), false);
      Check.due("12: it stays", toys.all(4), 1);
    }
    toys.report(0, 1, 1, 1, 1);
    Check.due("12: a new ACT is not known at 1", toys.all(5), 1);
    Check.due("12: as(3)", toys.as(3), true);
    toys.report(0, 1, 1, 1, 1);
    Check.due("12: nor at 3", toys.all(5), 3);
    Check.due("12: as(NONE)", toys.as(Check.NONE), true);
    Check.due("12: it is known", toys.all(5), 4);
    toys.report(0, 1, 1, 1, 1);
    Check.due("12: always the last one", toys.all(5), 5);
    Check.due("13: its number", toys.all(4), 5);
    Check.due("12: as(0)", toys.as(0), true);
    Check.due("12: none", toys.all(5), 0);
    Check.due("13: ACTS are all", toys.all(3), 5);
  }

  /** "Of all: 0 .. 7 .. NONE for others." */
  private static void allWhat() {
    WinterToys toys = Check.barn(KINDS + "gifts 1 for all;even 3;likes 1 of any for all;");
    toys.report(0, 1, 1, 1, 1);
    toys.report(0, 1, 1, 1, 1);
    toys.gifts(0, 1, 1);
    toys.as(2);
    int[] want = {2, 1, 3, 3, 2, 2, 1, 3};
    for (int what = 0; what < want.length; what++) {
      Check.due("13: all(" + what + ")", toys.all(what), want[what]);
    }
    for (int what : new int[] {-1, 8, 9, LEAST, MOST}) {
      Check.due("13: all(" + what + ")", toys.all(what), Check.NONE);
    }
  }

  /** "EVEN is 0 .. 1000 (the last one counts; without any 1000)". */
  private static void lastEven() {
    String[] texts = {"", "even 0;", "even 1000;", "even 0;even 1000;even 999;", "even 999;even 0;", "even 00001;"};
    int[] want = {1000, 0, 1000, 999, 0, 1};
    for (int i = 0; i < texts.length; i++) {
      Check.due("13: EVEN of " + texts[i], Check.barn(KINDS + texts[i]).all(7), want[i]);
    }
    WinterToys toys = Check.barn("even 5;");
    Check.due("4: rules()", Check.rules(toys, ""), 0);
    Check.due("13: EVEN of rules without any, behind others", toys.all(7), 1000);
  }

  public static void main(String[] args) {
    reportNumbers();
    twoHundredActs();
    lastActCounts();
    eightyReports();
    refusedReports();
    wishesOfReports();
    ownWordsAreNoWishes();
    tapeGoes();
    longTape();
    giftsNumbers();
    callNumbers();
    lastKind();
    annulRefused();
    annulLast();
    annulAsKnown();
    voidByThen();
    asBounds();
    allWhat();
    lastEven();
    Check.finish("BoundsActsTest");
  }
}
