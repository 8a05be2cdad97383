/** The bounds that the document names for children (Terms, II; promises 14 to 18), a method for each sentence. */
public final class BoundsChildrenTest {
  private static final String KINDS = "kind a worth 1 price 0 at 0 is m;kind b worth 1 price 0 at 0;";
  private static final int NO_POINTS = -2000000000;
  private static final int LEAST = Integer.MIN_VALUE;
  private static final int MOST = Integer.MAX_VALUE;

  /** "REPORTS of one CODE but 0 are one CHILD; one without is one by itself." */
  private static void codes() {
    WinterToys toys = Check.barn(KINDS);
    int[] codes = {0, 1, 0, 1, 9999, 2, 9999, 0, 9998};
    int[] children = {0, 1, 2, 1, 3, 4, 3, 5, 6};
    for (int i = 0; i < codes.length; i++) {
      toys.report(codes[i], 1, 1, 1, 1);
    }
    for (int i = 0; i < codes.length; i++) {
      Check.due("14: child(" + (i + 1) + ")", toys.child(i + 1), children[i]);
    }
    Check.due("13: CHILDREN", toys.all(5), 7);
    Check.due("15: REPORTS of CODE 0", toys.of(0, 8), 1);
    Check.due("15: REPORTS of CODE 1", toys.of(1, 8), 2);
  }

  /** "numbered from 0 on by their first REPORT": the first that is known. */
  private static void firstReport() {
    WinterToys toys = Check.barn(KINDS);
    toys.report(7, 1, 1, 1, 1);
    toys.report(8, 1, 1, 1, 1);
    toys.report(7, 1, 1, 1, 1);
    Check.due("15: CHILD 0", toys.of(0, 0), 7);
    Check.due("15: CHILD 1", toys.of(1, 0), 8);
    toys.annul(1);
    Check.due("15: CHILD 0 behind annul", toys.of(0, 0), 8);
    Check.due("15: CHILD 1 behind annul", toys.of(1, 0), 7);
    Check.due("14: child(3)", toys.child(3), 1);
    toys.as(2);
    Check.due("14: child(1) at 2", toys.child(1), 0);
  }

  /** "others than the first 40 are not there": for no one, and in no sum. */
  private static void fortyChildren() {
    WinterToys toys = Check.barn(KINDS);
    for (int i = 1; i <= 40; i++) {
      toys.report(i, 1, 1, 9, 1);
    }
    Check.due("13: 40 CHILDREN", toys.all(5), 40);
    Check.due("14: the 40th", toys.child(40), 39);
    Check.due("15: house", toys.of(39, 7), 40);
    Check.due("13: DOUBT", toys.all(6), 0);
    Check.due("8: the 41st is reported", toys.report(0, 1, 1, 9, 1), 41);
    Check.due("13: 40 CHILDREN still", toys.all(5), 40);
    Check.due("14: the 41st", toys.child(41), Check.NONE);
    Check.due("15: the 41st", toys.of(40, 0), Check.NONE);
    Check.due("16: the 41st", toys.wish(40, 0, 0), Check.NONE);
    Check.due("17: the 41st", toys.may(40, 0), Check.NONE);
    Check.due("18: the 41st", toys.points(40, 0), NO_POINTS);
    Check.due("15: house without it", toys.of(0, 7), 40);
    Check.due("13: DOUBT without it", toys.all(6), 0);
    toys.gifts(0, 1, 50);
    Check.due("19: give()", toys.give(), 40);
    Check.due("20: gifts that lack", toys.given(2), 0);
    Check.due("21: the 40th", toys.gets(39), 1);
    Check.due("21: the 41st", toys.gets(40), Check.NONE);
    Check.due("25: the 41st", toys.price(40), Check.NONE);
    Check.due("28: right()", toys.right(), 40);
    Check.due("23: blind()", toys.blind(), 40);
    Check.due("31: one house of forty", toys.queue(1, 1, 2), 42);
  }

  /** A code that comes again is not among the forty either, till another one is void. */
  private static void fortyFirstComesIn() {
    WinterToys toys = Check.barn(KINDS);
    for (int i = 1; i <= 42; i++) {
      toys.report(i, 1, 1, 9, 1);
    }
    toys.report(41, 2, 2, 8, 2);
    toys.report(40, 3, 3, 7, 3);
    Check.due("14: 41 again", toys.child(43), Check.NONE);
    Check.due("14: 40 again", toys.child(44), 39);
    Check.due("15: AGE of the last", toys.of(39, 1), 3);
    toys.annul(1);
    Check.due("14: 41 is the 40th", toys.child(41), 39);
    Check.due("14: 41 again", toys.child(43), 39);
    Check.due("14: 42 is not", toys.child(42), Check.NONE);
    Check.due("15: its REPORTS", toys.of(39, 8), 2);
    Check.due("15: its ages", toys.of(39, 2), 1);
    Check.due("13: CHILDREN", toys.all(5), 40);
    toys.as(44);
    Check.due("14: not by 44", toys.child(41), Check.NONE);
  }

  /** "The CHILD that a REPORT is of ..; NONE if it is none, not known, or not among the 40." */
  private static void childOfAct() {
    WinterToys toys = Check.barn(KINDS);
    toys.report(5, 1, 1, 1, 1);
    toys.gifts(0, 1, 1);
    toys.call(0, 1);
    toys.report(6, 1, 1, 1, 1);
    toys.annul(1);
    int[] want = {-1, -1, -1, -1, -1, 0, -1, -1};
    for (int act = -1; act <= 6; act++) {
      Check.due("14: child(" + act + ")", toys.child(act), want[act + 1]);
    }
    Check.due("14: child(least)", toys.child(LEAST), Check.NONE);
    Check.due("14: child(most)", toys.child(MOST), Check.NONE);
    toys.as(4);
    Check.due("14: child(1) at 4", toys.child(1), 0);
    Check.due("14: child(4) at 4", toys.child(4), 1);
    toys.as(3);
    Check.due("14: child(4) at 3", toys.child(4), Check.NONE);
    Check.due("14: child(5) at 3", toys.child(5), Check.NONE);
    toys.as(0);
    Check.due("14: child(1) at 0", toys.child(1), Check.NONE);
  }

  /** "AGE, SCHOOL, HOUSE, DAY are those of its last REPORT": the last that is known. */
  private static void lastReport() {
    WinterToys toys = Check.barn(KINDS);
    toys.report(5, 0, 99, 999, 1);
    toys.report(5, 17, 0, 0, 24);
    int[][] want = {{5, 0, 0, 99, 999, 1, 0, 1, 1}, {5, 17, 17, 0, 0, 24, 0, 1, 2}};
    for (int act = 1; act <= 2; act++) {
      toys.as(act);
      for (int what = 0; what <= 8; what++) {
        Check.due("15: of(0, " + what + ") at " + act, toys.of(0, what), want[act - 1][what]);
      }
    }
    toys.annul(2);
    toys.as(Check.NONE);
    for (int what = 0; what <= 8; what++) {
      Check.due("15: of(0, " + what + ") behind annul", toys.of(0, what), want[0][what]);
    }
  }

  /** "ages: how far the greatest AGE told of it is above the least", whatever came last. */
  private static void ages() {
    int[][] told = {{4}, {4, 4}, {0, 17}, {17, 0}, {5, 3, 9, 4}, {9, 9, 8}};
    int[] want = {0, 0, 17, 17, 6, 1};
    for (int i = 0; i < told.length; i++) {
      WinterToys toys = Check.barn(KINDS);
      for (int age : told[i]) {
        toys.report(5, age, 1, 1, 1);
      }
      Check.due("15: ages of " + i, toys.of(0, 2), want[i]);
    }
  }

  /** "its WISHES: those of all its REPORTS, in order, each once, the first 4". */
  private static void fourWishes() {
    WinterToys toys = Check.barn(KINDS);
    String[] told = {"p q p", "", "q", "r p", "q s t", "u"};
    int[] count = {2, 2, 2, 3, 4, 4};
    for (int i = 0; i < told.length; i++) {
      Check.report(toys, told[i], 5, 1, 1, 1, 1);
      Check.due("15: wishes behind " + told[i], toys.of(0, 6), count[i]);
    }
    String[] want = {"p", "q", "r", "s"};
    for (int i = 0; i < 4; i++) {
      Check.same("16: WISH " + i, Check.wish(toys, 0, i), want[i]);
    }
    Check.due("16: WISH 4", toys.wish(0, 4, 0), Check.NONE);
    toys.annul(1);
    String[] then = {"q", "r", "p", "s"};
    for (int i = 0; i < 4; i++) {
      Check.same("16: WISH " + i + " behind annul", Check.wish(toys, 0, i), then[i]);
    }
    toys.annul(5);
    Check.due("15: wishes behind another one", toys.of(0, 6), 4);
    Check.same("16: WISH 3", Check.wish(toys, 0, 3), "u");
  }

  /** What was told later, or was not so, is no wish as known at an act. */
  private static void wishesAsKnown() {
    WinterToys toys = Check.barn(KINDS);
    Check.report(toys, "p", 5, 1, 1, 1, 1);
    Check.report(toys, "q r s", 5, 1, 1, 1, 1);
    Check.same("16: WISH 3", Check.wish(toys, 0, 3), "s");
    toys.as(1);
    Check.due("15: wishes at 1", toys.of(0, 6), 1);
    Check.same("16: WISH 0 at 1", Check.wish(toys, 0, 0), "p");
    for (int i = 1; i <= 4; i++) {
      Check.due("16: WISH " + i + " at 1", toys.wish(0, i, 0), Check.NONE);
    }
    toys.as(Check.NONE);
    toys.annul(1);
    Check.due("15: wishes behind annul", toys.of(0, 6), 3);
    Check.same("16: WISH 0 behind annul", Check.wish(toys, 0, 0), "q");
    Check.due("16: WISH 3 behind annul", toys.wish(0, 3, 0), Check.NONE);
  }

  /** A fifth wish is none: no test holds by it. */
  private static void fifthWish() {
    for (int n = 1; n <= 5; n++) {
      WinterToys toys = Check.barn(KINDS + "gifts 3 for wish w" + (char) ('a' + n) + ";");
      Check.report(toys, "wb wc wd", 5, 1, 1, 1, 1);
      Check.report(toys, "we wf", 5, 1, 1, 1, 1);
      Check.due("15: DUE by WISH " + n, toys.of(0, 9), n <= 4 ? 3 : 1);
    }
  }

  /** "Letter k of WISH i of a CHILD; NONE if there is none such." */
  private static void lettersOfWishes() {
    WinterToys toys = Check.barn(KINDS);
    Check.report(toys, "a abcdefgh", 0, 1, 1, 1, 1);
    Check.report(toys, "", 0, 1, 1, 1, 1);
    Check.due("16: letter 0", toys.wish(0, 0, 0), 'a');
    Check.due("16: letter 1", toys.wish(0, 0, 1), Check.NONE);
    Check.due("16: letter 0", toys.wish(0, 1, 0), 'a');
    Check.due("16: letter 7", toys.wish(0, 1, 7), 'h');
    Check.due("16: letter 8", toys.wish(0, 1, 8), Check.NONE);
    Check.due("16: WISH 2", toys.wish(0, 2, 0), Check.NONE);
    Check.due("16: CHILD 1 has none", toys.wish(1, 0, 0), Check.NONE);
    Check.due("16: CHILD 2", toys.wish(2, 0, 0), Check.NONE);
    for (int n : new int[] {-1, LEAST, MOST}) {
      Check.due("16: CHILD " + n, toys.wish(n, 0, 0), Check.NONE);
      Check.due("16: WISH " + n, toys.wish(0, n, 0), Check.NONE);
      Check.due("16: letter " + n, toys.wish(0, 1, n), Check.NONE);
    }
  }

  /** "house: how many CHILDREN have its HOUSE (itself too; 1 without one)". */
  private static void houses() {
    WinterToys toys = Check.barn(KINDS);
    int[] houses = {0, 0, 1, 999, 999, 1, 999};
    int[] want = {1, 1, 2, 3, 3, 2, 3};
    for (int i = 0; i < houses.length; i++) {
      toys.report(i + 1, 1, 1, houses[i], 1);
    }
    for (int i = 0; i < houses.length; i++) {
      Check.due("15: house of " + i, toys.of(i, 7), want[i]);
    }
    toys.report(7, 1, 1, 0, 1);
    Check.due("15: it went", toys.of(3, 7), 2);
    Check.due("15: it has none", toys.of(6, 7), 1);
  }

  private static int doubt(int... reports) {
    WinterToys toys = Check.barn(KINDS);
    for (int i = 0; i < reports.length; i += 4) {
      toys.report(reports[i], reports[i + 1], reports[i + 2], reports[i + 3], 1 + i);
    }
    return toys.all(6);
  }

  /** "DOUBT: pairs .. of which one has no CODE, with the same HOUSE (not 0), SCHOOL, AGE." */
  private static void doubts() {
    Check.due("13: without CHILDREN", doubt(), 0);
    Check.due("13: one", doubt(0, 5, 6, 7), 0);
    Check.due("13: one has no CODE", doubt(0, 5, 6, 7, 1, 5, 6, 7), 1);
    Check.due("13: the other one", doubt(1, 5, 6, 7, 0, 5, 6, 7), 1);
    Check.due("13: both have none", doubt(0, 5, 6, 7, 0, 5, 6, 7), 1);
    Check.due("13: both have one", doubt(1, 5, 6, 7, 2, 5, 6, 7), 0);
    Check.due("13: HOUSE 0", doubt(0, 5, 6, 0, 1, 5, 6, 0), 0);
    Check.due("13: HOUSE 1", doubt(0, 5, 6, 1, 1, 5, 6, 1), 1);
    Check.due("13: another HOUSE", doubt(0, 5, 6, 7, 1, 5, 6, 8), 0);
    Check.due("13: another SCHOOL", doubt(0, 5, 6, 7, 1, 5, 5, 7), 0);
    Check.due("13: another AGE", doubt(0, 5, 6, 7, 1, 6, 6, 7), 0);
    Check.due("13: SCHOOL 0, AGE 0", doubt(0, 0, 0, 7, 1, 0, 0, 7), 1);
    WinterToys toys = Check.barn(KINDS);
    for (int i = 0; i < 41; i++) {
      toys.report(0, 5, 6, 7, 1);
    }
    Check.due("13: all pairs of 40", toys.all(6), 780);
  }

  /** "Of a CHILD: 0 .. 9 .. NONE if there is none such, or for others." */
  private static void ofWhat() {
    WinterToys toys = Check.barn(KINDS);
    Check.report(toys, "x", 5, 6, 7, 8, 9);
    int[] want = {5, 6, 0, 7, 8, 9, 1, 1, 1, 1};
    for (int what = 0; what < want.length; what++) {
      Check.due("15: of(0, " + what + ")", toys.of(0, what), want[what]);
      for (int child : new int[] {-1, 1, 40, LEAST, MOST}) {
        Check.due("15: of(" + child + ", " + what + ")", toys.of(child, what), Check.NONE);
      }
    }
    for (int what : new int[] {-1, 10, 11, LEAST, MOST}) {
      Check.due("15: of(0, " + what + ")", toys.of(0, what), Check.NONE);
    }
    toys.as(0);
    Check.due("15: not known", toys.of(0, 0), Check.NONE);
  }

  private static int due(String rules) {
    WinterToys toys = Check.barn(KINDS + rules);
    toys.report(5, 6, 7, 8, 9);
    return toys.of(0, 9);
  }

  /** "so many gifts (0 .. 3; below 0 is 0, above 3 is 3) are DUE ..; of several the last one counts; without any 1." */
  private static void dues() {
    int[][] bounds = {{0, 0}, {1, 1}, {2, 2}, {3, 3}, {4, 3}, {5, 3}, {99999, 3}};
    for (int[] b : bounds) {
      Check.due("15: DUE by gifts " + b[0], due("gifts " + b[0] + " for all;"), b[1]);
      Check.due("15: DUE by gifts 0-" + b[0], due("gifts 0-" + b[0] + " for all;"), 0);
    }
    Check.due("15: DUE by the greatest", due("gifts 99999*99999 for all;"), 3);
    Check.due("15: DUE by the least", due("gifts 0-99999*99999 for all;"), 0);
    Check.due("15: DUE without any", due(""), 1);
    Check.due("15: DUE by one that is not for it", due("gifts 3 for not all;"), 1);
    Check.due("15: DUE by the last one", due("gifts 3 for all;gifts 2 for all;"), 2);
    Check.due("15: DUE by the last one, 0", due("gifts 3 for all;gifts 0 for all;"), 0);
    Check.due("15: DUE by the last that is for it", due("gifts 3 for all;gifts 2 for age<6;"), 3);
    Check.due("15: DUE by the 24th", due("gifts 3 for all;".repeat(23) + "gifts 2 for all;"), 2);
  }

  private static void holds(String test, boolean want) {
    Check.due("15: DUE for " + test, due("gifts 3 for " + test + ";"), want ? 3 : 1);
  }

  /** "SIGN being < or > or =": just below, like, just above. */
  private static void signs() {
    for (int n = 5; n <= 7; n++) {
      holds("age<" + n, 6 < n);
      holds("age>" + n, 6 > n);
      holds("age=" + n, 6 == n);
      holds(n + "<age", n < 6);
      holds(n + ">age", n > 6);
      holds(n + "=age", n == 6);
    }
    holds("0-1<0", true);
    holds("0>0-1", true);
    holds("0=0-0", true);
  }

  /** "Each sum, difference, product above 10 to the 6 is that, below -10 to the 6 likewise." */
  private static void millions() {
    String million = "(1000*1000)";
    holds(million + "=" + million, true);
    holds(million + "-1<" + million, true);
    holds(million + "+0=" + million, true);
    holds(million + "+1=" + million, true);
    holds(million + "+1-1<" + million, true);
    holds("1000*1001=" + million, true);
    holds("99999*99999=" + million, true);
    holds("99999*10+9<" + million, true);
    holds("99999*10+10=" + million, true);
    holds("99999*10+11=" + million, true);
    holds(million + "*" + million + "=" + million, true);
    String less = "(0-1000*1000)";
    holds(less + "<(1-(1000*1000))", true);
    holds(less + "-0=" + less, true);
    holds(less + "-1=" + less, true);
    holds(less + "-1+1>" + less, true);
    holds("0-99999*99999=" + less, true);
    holds("0-(99999*10)-9>" + less, true);
    holds("0-(99999*10)-10=" + less, true);
    holds("0-(99999*10)-11=" + less, true);
    holds(less + "*" + less + "=" + million, true);
    holds(less + "*" + million + "=" + less, true);
    holds("0-" + less + "=" + million, true);
    holds(less + "+" + million + "=0", true);
  }

  /** "all from the left on": each step is bounded, not the whole. */
  private static void fromTheLeft() {
    holds("2+3*4=20", true);
    holds("10-2-3=5", true);
    holds("10-(2-3)=11", true);
    holds("2*3+4=10", true);
    holds("1000*1001-(1000*1000)=0", true);
    holds("1000*1000*2-(1000*999)=1000", true);
    holds("0-1000*1001+(1000*1000)=0", true);
  }

  /** "Whether a CHILD may get a KIND ..: 1, 0; NONE if there are none such." */
  private static void mayOrNot() {
    WinterToys toys = Check.barn(KINDS + "never a for age=6;");
    toys.report(5, 6, 7, 8, 9);
    int[][] want = {{-1, -1, -1, -1}, {-1, 0, 1, -1}, {-1, -1, -1, -1}};
    for (int child = -1; child <= 1; child++) {
      for (int kind = -1; kind <= 2; kind++) {
        Check.due("17: may(" + child + ", " + kind + ")", toys.may(child, kind), want[child + 1][kind + 1]);
      }
    }
    for (int n : new int[] {LEAST, MOST, 10, 32, 40}) {
      Check.due("17: CHILD " + n, toys.may(n, 0), Check.NONE);
      Check.due("17: KIND " + n, toys.may(0, n), Check.NONE);
    }
  }

  /** "no CALL (DAY not behind the CHILD's)": ahead of its day, on it, behind it; from the first day to the last. */
  private static void calls() {
    int[][] days = {{1, 1, 0}, {2, 1, 0}, {1, 2, 1}, {12, 11, 0}, {12, 12, 0}, {12, 13, 1}, {24, 24, 0}, {23, 24, 1},
      {24, 1, 0}, {1, 24, 1}};
    for (int[] d : days) {
      WinterToys toys = Check.barn(KINDS);
      toys.report(5, 6, 7, 8, d[0]);
      toys.call(0, d[1]);
      Check.due("17: DAY " + d[0] + ", CALL from " + d[1], toys.may(0, 0), d[2]);
      Check.due("17: another KIND", toys.may(0, 1), 1);
      toys.gifts(0, 1, 1);
      Check.due("19: give()", toys.give(), d[2]);
    }
  }

  /** Of several calls each is against it; one that was not so is not. */
  private static void severalCalls() {
    WinterToys toys = Check.barn(KINDS);
    toys.report(5, 6, 7, 8, 12);
    toys.call(0, 13);
    toys.call(0, 12);
    toys.call(0, 20);
    Check.due("17: may", toys.may(0, 0), 0);
    toys.annul(3);
    Check.due("17: may behind annul", toys.may(0, 0), 1);
    toys.as(4);
    Check.due("17: not VOID by 4", toys.may(0, 0), 0);
    toys.as(2);
    Check.due("17: not called by 2", toys.may(0, 0), 1);
    toys.as(3);
    Check.due("17: called by 3", toys.may(0, 0), 0);
  }

  /** "POINTS of a KIND with a CHILD; -2000000000 if there are none such." */
  private static void pointsOrNone() {
    WinterToys toys = Check.barn(KINDS + "likes 7 of a for all;likes 0-9 of m for age=6;");
    toys.report(5, 6, 7, 8, 9);
    int none = NO_POINTS;
    int[][] want = {{none, none, none, none}, {none, -2, 0, none}, {none, none, none, none}};
    for (int child = -1; child <= 1; child++) {
      for (int kind = -1; kind <= 2; kind++) {
        Check.due("18: points(" + child + ", " + kind + ")", toys.points(child, kind), want[child + 1][kind + 1]);
      }
    }
    for (int n : new int[] {LEAST, MOST, 10, 32, 40}) {
      Check.due("18: CHILD " + n, toys.points(n, 0), none);
      Check.due("18: KIND " + n, toys.points(0, n), none);
    }
    toys.as(0);
    Check.due("18: not known", toys.points(0, 0), none);
  }

  /** "so many POINTS more": a million each time, and no bound for them together. */
  private static void mostPoints() {
    String most = "likes 99999*99 of any for all;";
    String least = "likes 0-99999*99 of any for all;";
    String[] rules = {most, most.repeat(2), most.repeat(24), least, least.repeat(24), most + least};
    int[] want = {1000000, 2000000, 24000000, -1000000, -24000000, 0};
    for (int i = 0; i < rules.length; i++) {
      WinterToys toys = Check.barn(KINDS + rules[i]);
      toys.report(5, 6, 7, 8, 9);
      Check.due("18: points " + i, toys.points(0, 0), want[i]);
      Check.due("18: points " + i, toys.points(0, 1), want[i]);
    }
  }

  /** The last of 40 children and the last of 10 kinds have all that others have. */
  private static void lastOfAll() {
    StringBuilder text = new StringBuilder();
    for (int i = 0; i < 10; i++) {
      text.append("kind ").append((char) ('a' + i)).append(" worth 1 price 0 at 0;");
    }
    WinterToys toys = Check.barn(text + "likes age+1 of j for all;never j for school=3;gifts 2 for age=17;");
    for (int i = 1; i <= 38; i++) {
      toys.report(i, 1, 1, 1, 1);
    }
    Check.report(toys, "q r", 39, 5, 3, 1, 1);
    Check.report(toys, "x y z", 40, 17, 99, 999, 24);
    Check.due("15: DUE", toys.of(39, 9), 2);
    Check.due("15: DAY", toys.of(39, 5), 24);
    Check.due("17: may", toys.may(39, 9), 1);
    Check.due("17: the one ahead", toys.may(38, 9), 0);
    Check.due("18: points", toys.points(39, 9), 18);
    Check.due("18: KIND 8", toys.points(39, 8), 0);
    Check.due("18: KIND 10", toys.points(39, 10), NO_POINTS);
    Check.same("16: its last WISH", Check.wish(toys, 39, 2), "z");
    Check.same("16: of the one ahead", Check.wish(toys, 38, 1), "r");
  }

  public static void main(String[] args) {
    codes();
    firstReport();
    fortyChildren();
    fortyFirstComesIn();
    childOfAct();
    lastReport();
    ages();
    fourWishes();
    wishesAsKnown();
    fifthWish();
    lettersOfWishes();
    houses();
    doubts();
    ofWhat();
    dues();
    signs();
    millions();
    fromTheLeft();
    mayOrNot();
    calls();
    severalCalls();
    pointsOrNone();
    mostPoints();
    lastOfAll();
    Check.finish("BoundsChildrenTest");
  }
}
