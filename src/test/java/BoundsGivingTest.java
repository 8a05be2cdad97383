/** The bounds that the document names for the giving (Terms, III; promises 19 to 24), a method for each sentence. */
public final class BoundsGivingTest {
  private static final String KINDS = "kind a worth 10 price 1 at 0;kind b worth 20 price 1 at 0;"
      + "kind c worth 30 price 1 at 0;kind d worth 40 price 1 at 0;";
  private static final int LEAST = Integer.MIN_VALUE;
  private static final int MOST = Integer.MAX_VALUE;

  /** All that is told of a giving, where there is none. */
  static void noGive(String when, WinterToys toys) {
    for (int i = 0; i <= 3; i++) {
      Check.due(when + ": given(" + i + ")", toys.given(i), Check.NONE);
    }
    Check.due(when + ": gets", toys.gets(0), Check.NONE);
    Check.due(when + ": left", toys.left(0), Check.NONE);
    Check.due(when + ": lacks", toys.lacks(0, 17), Check.NONE);
    Check.due(when + ": price", toys.price(0), Check.NONE);
    Check.due(when + ": spend", toys.spend(1), Check.NONE);
    Check.due(when + ": spent", toys.spent(), Check.NONE);
    Check.due(when + ": right", toys.right(), Check.NONE);
    Check.due(when + ": walks", toys.walks(1), Check.NONE);
    Check.due(when + ": bag", toys.bag(0), Check.NONE);
    for (int what = 0; what <= 2; what++) {
      Check.due(when + ": queue", toys.queue(1, 1, what), Check.NONE);
    }
    Check.due(when + ": label", toys.label(0), Check.NONE);
  }

  /** A child on each of the days, all of the same rules, and gifts as kind, day, how many. */
  private static WinterToys barn(String rules, int[] days, int... gifts) {
    WinterToys toys = Check.barn(KINDS + rules);
    for (int i = 0; i < days.length; i++) {
      toys.report(i + 1, i, 1, 0, days[i]);
    }
    for (int i = 0; i < gifts.length; i += 3) {
      toys.gifts(gifts[i], gifts[i + 1], gifts[i + 2]);
    }
    return toys;
  }

  private static void gives(String what, WinterToys toys, int... bits) {
    int sum = 0;
    for (int b : bits) {
      sum += Integer.bitCount(b);
    }
    Check.due("19: give(), " + what, toys.give(), sum);
    for (int c = 0; c < bits.length; c++) {
      Check.due("21: gets(" + c + "), " + what, toys.gets(c), bits[c]);
    }
  }

  private static int[] days(int... days) {
    return days;
  }

  /** "NONE ahead of any": acts alone make no giving, nor does blind(). */
  private static void aheadOfAny() {
    noGive("ahead of all", new WinterToys());
    WinterToys toys = barn("", days(1), 0, 1, 1);
    noGive("ahead of give()", toys);
    Check.due("23: blind()", toys.blind(), 1);
    noGive("behind blind()", toys);
    Check.due("19: give()", toys.give(), 1);
    Check.due("20: given(0)", toys.given(0), 0);
    Check.due("26: spend(1)", toys.spend(1), 0);
  }

  /** Without children, without gifts, without kinds, nothing is given. */
  private static void nothingToGive() {
    WinterToys toys = barn("", days(), 0, 1, 99);
    gives("without CHILDREN", toys);
    Check.due("20: left over", toys.given(3), 99);
    Check.due("20: gifts that lack", toys.given(2), 0);
    Check.due("21: gets(0)", toys.gets(0), Check.NONE);
    Check.due("23: blind()", toys.blind(), 0);
    Check.due("28: right()", toys.right(), 0);
    Check.due("26: spend", toys.spend(100000), 0);
    toys = barn("", days(1, 1));
    gives("without gifts", toys, 0, 0);
    Check.due("20: left over", toys.given(3), 0);
    Check.due("20: gifts that lack", toys.given(2), 2);
    Check.due("22: left(3)", toys.left(3), 0);
    toys = barn("gifts 0 for all;", days(1, 1), 0, 1, 9);
    gives("nothing is DUE", toys, 0, 0);
    Check.due("20: CHILDREN with all", toys.given(1), 2);
    Check.due("23: blind()", toys.blind(), 0);
  }

  /** "a CHILD may get a KIND once". */
  private static void onceEach() {
    WinterToys toys = barn("gifts 3 for all;", days(1), 0, 1, 99);
    gives("one of a KIND", toys, 1);
    Check.due("22: left(0)", toys.left(0), 98);
    toys.gifts(1, 1, 1);
    gives("one of each", toys, 3);
  }

  /** "at most as many gifts as are DUE to it": from 0 to 3 of four kinds. */
  private static void asManyAsDue() {
    int[] bits = {0, 1, 3, 7, 7};
    for (int due = 0; due <= 4; due++) {
      WinterToys toys = barn("gifts " + due + " for all;", days(1), 0, 1, 1, 1, 1, 1, 2, 1, 1, 3, 1, 1);
      gives("DUE " + due, toys, bits[due]);
      Check.due("20: left over", toys.given(3), 4 - Integer.bitCount(bits[due]));
      Check.due("20: gifts that lack", toys.given(2), 0);
      Check.due("23: blind()", toys.blind(), Integer.bitCount(bits[due]));
    }
  }

  /** "a gift that came on a DAY goes to a CHILD whose DAY is not ahead of it": on its day, not on the day ahead. */
  private static void notAhead() {
    int[][] days = {{1, 1, 1}, {1, 2, 0}, {2, 1, 1}, {12, 12, 1}, {12, 13, 0}, {24, 24, 1}, {23, 24, 0}, {24, 1, 1},
      {1, 24, 0}};
    for (int[] d : days) {
      WinterToys toys = barn("", days(d[0]), 0, d[1], 1);
      gives("DAY " + d[0] + ", a gift of DAY " + d[1], toys, d[2]);
      Check.due("22: left", toys.left(0), 1 - d[2]);
      Check.due("23: blind()", toys.blind(), d[2]);
    }
  }

  /** What comes up to a day is enough for those of that day and ahead, or is not. */
  private static void enoughOrNot() {
    gives("one for two", barn("", days(3, 2), 0, 2, 1), 1, 0);
    gives("one each in time", barn("", days(3, 2), 0, 2, 1, 0, 3, 1), 1, 1);
    gives("one comes late", barn("", days(3, 2), 0, 2, 1, 0, 4, 1), 1, 0);
    gives("two come early", barn("", days(3, 2), 0, 1, 2), 1, 1);
    gives("both too late for one", barn("", days(3, 2), 0, 3, 2), 1, 0);
    gives("99 for 24 days", barn("", days(1, 24), 0, 1, 99), 1, 1);
  }

  /** "Most gifts are given; of all such givings the greatest sum of POINTS": one gift counts more than any points. */
  private static void mostThenPoints() {
    String most = "likes 99999*99 of a for age=1;".repeat(20);
    gives("a gift more than points", barn(most + "never b for age=1;never c for age=1;never d for age=1;"
        + "never not a for age=0;", days(1, 1), 0, 1, 1), 0, 1);
    WinterToys toys = barn(most + "never not a for age=0;", days(1, 1), 0, 1, 1, 1, 1, 1);
    gives("both get one", toys, 1, 2);
    Check.due("20: points", toys.given(0), 0);
    gives("one point decides", barn("likes 1 of a for age=1;", days(1, 1), 0, 1, 1), 0, 1);
    gives("like points: the first", barn("likes 1 of a for all;", days(1, 1), 0, 1, 1), 1, 0);
    gives("a point less", barn("likes 0-1 of a for age=0;", days(1, 1), 0, 1, 1), 0, 1);
  }

  /** "of several the first: CHILD by CHILD, KIND by KIND, that which gives where two first differ". */
  private static void firstOfSeveral() {
    gives("the first CHILD", barn("", days(1, 1, 1), 0, 1, 2), 1, 1, 0);
    gives("the first KIND", barn("", days(1), 3, 1, 1, 1, 1, 1), 2);
    gives("the first KINDS", barn("gifts 2 for all;", days(1), 3, 1, 1, 1, 1, 1, 0, 1, 1), 3);
    gives("as the CHILD ahead says", barn("", days(1, 1), 3, 1, 1, 0, 1, 1), 1, 8);
    gives("of a later DAY, but ahead", barn("", days(24, 1), 0, 1, 1), 1, 0);
    gives("of a later DAY, but ahead, though nobody likes it", barn("likes 0-5 of any for all;", days(24, 1), 0, 1, 1),
        1, 0);
    gives("of a later DAY, but ahead, though all like it", barn("likes 5 of any for all;", days(24, 1), 0, 1, 1), 1, 0);
    gives("all of one", barn("gifts 3 for all;", days(1, 1), 0, 1, 1, 1, 1, 1, 2, 1, 1), 7, 0);
  }

  /** All that there may be: 40 children, 10 kinds, 3 gifts each, on all days. */
  private static void greatest() {
    StringBuilder text = new StringBuilder("gifts 3 for all;");
    for (int i = 0; i < 10; i++) {
      text.append("kind ").append((char) ('a' + i)).append(" worth 1 price 1 at 1;");
    }
    WinterToys toys = Check.barn(text.toString());
    for (int i = 0; i < 40; i++) {
      toys.report(i + 1, i % 18, 1, i % 3, 1 + i % 24);
    }
    for (int kind = 0; kind < 10; kind++) {
      toys.gifts(kind, 1, 12);
    }
    Check.due("19: give()", toys.give(), 120);
    Check.due("20: CHILDREN with all", toys.given(1), 40);
    Check.due("20: left over", toys.given(3), 0);
    Check.due("21: gets(0)", toys.gets(0), 7);
    Check.due("21: gets(39)", toys.gets(39), 1 << 9 | 1 << 8 | 1 << 7);
    // day by day the first kinds go: 36 children get three, the last four one each
    Check.due("23: blind()", toys.blind(), 112);
    toys.annul(50);
    Check.due("19: give() with 12 less", toys.give(), 108);
    Check.due("20: gifts that lack", toys.given(2), 12);
    Check.due("22: left(9)", toys.left(9), 0);
    Check.due("22: left(10)", toys.left(10), Check.NONE);
  }

  /** "of what came up to it and was not given": blind giving keeps what is left for the days behind. */
  private static void blindDays() {
    Check.due("23: kept for the next day", barn("", days(1, 2), 0, 1, 2).blind(), 2);
    Check.due("23: given on the first day", barn("", days(1, 2), 0, 1, 1).blind(), 1);
    Check.due("23: from the first to the last", barn("", days(24), 0, 1, 1).blind(), 1);
    Check.due("23: on the last", barn("", days(24), 0, 24, 1).blind(), 1);
    Check.due("23: the first is blind", barn("never not a for age=1;", days(1, 2), 0, 1, 1, 1, 1, 1).blind(), 1);
    Check.due("23: of one DAY it is not", barn("never not a for age=1;", days(2, 2), 0, 1, 1, 1, 1, 1).blind(), 2);
    Check.due("23: the first one gets none at all", barn("never any for age=0;", days(1, 2), 0, 1, 1).blind(), 1);
  }

  /** "(as known now)": blind() looks at as(), and at what came behind give(). */
  private static void blindAsKnown() {
    WinterToys toys = barn("", days(1, 1), 0, 1, 1, 0, 1, 1);
    int[] want = {0, 0, 0, 1, 2};
    toys.give();
    for (int act = 0; act <= 4; act++) {
      toys.as(act);
      Check.due("23: blind() at " + act, toys.blind(), want[act]);
    }
    Check.due("21: give() stays", toys.gets(1), 1);
    toys.annul(3);
    toys.as(Check.NONE);
    Check.due("23: blind() behind annul", toys.blind(), 1);
  }

  /** "0 the sum of POINTS (it wraps at 32 bits)": the last sum that does not, and the first that does. */
  private static void wrap() {
    String[] signs = {"", "0-"};
    int[][] want = {{2147483647, -2147483648}, {-2147483647, -2147483648, 2147483647}};
    for (int s = 0; s < 2; s++) {
      for (int more = 0; more < want[s].length; more++) {
        // 120 gifts of 17895697 points each are 2147483640
        String text = "kind a worth 1 price 0 at 0;kind b worth 1 price 0 at 0;kind c worth 1 price 0 at 0;"
            + "gifts 3 for all;" + ("likes " + signs[s] + "99999*99 of any for all;").repeat(17)
            + "likes " + signs[s] + "(89569*10+7) of any for all;likes " + signs[s] + (7 + more) + " of a for age=9;";
        WinterToys toys = Check.barn(text);
        for (int i = 0; i < 40; i++) {
          toys.report(0, i == 20 ? 9 : 8, 1, 1, 1);
        }
        for (int kind = 0; kind < 3; kind++) {
          toys.gifts(kind, 1, 40);
        }
        Check.due("19: give()", toys.give(), 120);
        Check.due("20: given(0)", toys.given(0), want[s][more]);
      }
    }
  }

  /** A sum that wraps is none the less the greatest. */
  private static void wrapIsGreatest() {
    String text = "kind a worth 1 price 0 at 0;kind b worth 1 price 0 at 0;kind c worth 1 price 0 at 0;"
        + "kind d worth 1 price 0 at 0;gifts 3 for all;" + "likes 99999*99 of a or b or c for all;".repeat(20);
    WinterToys toys = Check.barn(text);
    for (int i = 0; i < 40; i++) {
      toys.report(0, 8, 1, 1, 1);
    }
    for (int kind = 0; kind < 4; kind++) {
      toys.gifts(kind, 1, 40);
    }
    Check.due("19: give()", toys.give(), 120);
    Check.due("20: given(0)", toys.given(0), (int) 2400000000L);
    Check.due("22: left(0)", toys.left(0), 0);
    Check.due("22: left(3)", toys.left(3), 40);
  }

  /** "Of the latest give() ..: 0 .. 3 .. NONE .. for others." */
  private static void givenWhat() {
    WinterToys toys = barn("gifts 2 for all;likes 5 of any for all;gifts 0 for age=2;", days(1, 1, 1),
        0, 1, 1, 1, 1, 1, 2, 1, 1, 3, 2, 5);
    gives("three", toys, 3, 4, 0);
    int[] want = {15, 2, 1, 5};
    for (int what = 0; what < 4; what++) {
      Check.due("20: given(" + what + ")", toys.given(what), want[what]);
    }
    for (int what : new int[] {-1, 4, 5, LEAST, MOST}) {
      Check.due("20: given(" + what + ")", toys.given(what), Check.NONE);
    }
  }

  /** "what is bought not looked at": sums stay as they were behind spending; gets() tells what was bought, too. */
  private static void boughtNotLookedAt() {
    WinterToys toys = barn("gifts 2 for all;likes 5 of any for all;", days(1, 1), 3, 1, 1, 2, 2, 1);
    gives("one", toys, 8, 0);
    Check.due("26: spend", toys.spend(100000), 1);
    Check.due("21: bought", toys.gets(1), 3);
    int[] want = {5, 0, 3, 1};
    for (int what = 0; what < 4; what++) {
      Check.due("20: given(" + what + ")", toys.given(what), want[what]);
    }
    Check.due("22: left(0)", toys.left(0), 0);
    Check.due("22: left(2)", toys.left(2), 1);
    Check.due("24: lacks of the one that has all", toys.lacks(1, 1), 2);
  }

  /** "NONE .. if there was none such": a child that came behind give() was not. */
  private static void getsBounds() {
    WinterToys toys = barn("", days(1, 1), 0, 1, 1);
    gives("two CHILDREN", toys, 1, 0);
    for (int child : new int[] {-1, 2, 39, 40, LEAST, MOST}) {
      Check.due("21: gets(" + child + ")", toys.gets(child), Check.NONE);
    }
    toys.report(9, 9, 1, 0, 1);
    Check.due("21: it was not there", toys.gets(2), Check.NONE);
    toys.annul(2);
    Check.due("21: it was there", toys.gets(1), 0);
    toys.give();
    Check.due("21: now there are two again", toys.gets(2), Check.NONE);
    Check.due("21: the other one", toys.gets(1), 0);
  }

  /** "How many gifts of a KIND are left over in it; NONE .. if there is none such." */
  private static void leftBounds() {
    WinterToys toys = barn("", days(1), 0, 1, 1, 3, 24, 99);
    toys.give();
    int[] want = {0, 0, 0, 99};
    for (int kind = 0; kind < 4; kind++) {
      Check.due("22: left(" + kind + ")", toys.left(kind), want[kind]);
    }
    for (int kind : new int[] {-1, 4, 10, LEAST, MOST}) {
      Check.due("22: left(" + kind + ")", toys.left(kind), Check.NONE);
    }
    toys.gifts(0, 1, 7);
    Check.due("22: by all as it was then", toys.left(0), 0);
    toys.call(3, 1);
    toys.give();
    Check.due("22: what is called back is left over, too", toys.left(3), 99);
  }

  /** "to CHILDREN of an AGE from one up to another one": both are within. */
  private static void lacksBounds() {
    WinterToys toys = Check.barn(KINDS + "gifts 2 for age=17;");
    int[] ages = {0, 5, 6, 17};
    for (int age : ages) {
      toys.report(0, age, 1, 0, 1);
    }
    toys.give();
    int[][] want = {{0, 17, 5}, {0, 0, 1}, {17, 17, 2}, {1, 16, 2}, {5, 5, 1}, {5, 6, 2}, {6, 6, 1}, {4, 4, 0},
      {1, 4, 0}, {7, 16, 0}, {7, 17, 2}, {0, 4, 1}, {6, 5, 0}, {17, 0, 0}, {18, 99, 0}, {-9, -1, 0}, {-1, 0, 1},
      {17, 18, 2}, {LEAST, MOST, 5}, {MOST, LEAST, 0}, {LEAST, LEAST, 0}, {MOST, MOST, 0}, {LEAST, 16, 3},
      {1, MOST, 4}};
    for (int[] n : want) {
      Check.due("24: lacks(" + n[0] + ", " + n[1] + ")", toys.lacks(n[0], n[1]), n[2]);
    }
    toys.report(0, 5, 1, 0, 1);
    Check.due("24: by all as it was then", toys.lacks(5, 5), 1);
  }

  /** "(What is told of it .. is by all as it was then.)": no act, no as() changes it; the next give() does. */
  private static void asItWasThen() {
    WinterToys toys = barn("even 0;", days(3, 3), 0, 1, 1);
    Check.due("19: give()", toys.give(), 1);
    toys.report(1, 17, 1, 9, 20);
    toys.report(2, 17, 1, 9, 20);
    toys.call(0, 1);
    toys.call(1, 1);
    toys.annul(3);
    for (int act = 0; act <= 8; act += 4) {
      toys.as(act);
      Check.due("21: gets(0)", toys.gets(0), 1);
      Check.due("20: given(2)", toys.given(2), 1);
      Check.due("22: left(0)", toys.left(0), 0);
      Check.due("24: lacks(1, 1)", toys.lacks(1, 1), 1);
      Check.due("25: price(1)", toys.price(1), 1);
      Check.due("28: right()", toys.right(), 1);
      Check.due("31: queue of the DAY then", toys.queue(3, 1, 0), 1);
      Check.due("31: queue of the DAY now", toys.queue(20, 1, 0), 0);
    }
    toys.as(Check.NONE);
    Check.due("19: give() again", toys.give(), 0);
    Check.due("24: lacks(17, 17)", toys.lacks(17, 17), 2);
    Check.due("25: price(1) by the call", toys.price(1), 1);
    Check.due("26: spend", toys.spend(1), 1);
    Check.due("21: c is the first that is not called back", toys.gets(0), 4);
  }

  public static void main(String[] args) {
    aheadOfAny();
    nothingToGive();
    onceEach();
    asManyAsDue();
    notAhead();
    enoughOrNot();
    mostThenPoints();
    firstOfSeveral();
    greatest();
    blindDays();
    blindAsKnown();
    wrap();
    wrapIsGreatest();
    givenWhat();
    boughtNotLookedAt();
    getsBounds();
    leftBounds();
    lacksBounds();
    asItWasThen();
    Check.finish("BoundsGivingTest");
  }
}
