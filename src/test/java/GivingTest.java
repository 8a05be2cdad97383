/** Promises 19 to 24: give, given, gets, left, blind, lacks. */
public final class GivingTest {
  private static final String KINDS = "kind a worth 10 price 0 at 0;kind b worth 20 price 0 at 0;"
      + "kind c worth 30 price 0 at 0;";

  private static void gets(String what, WinterToys toys, int give, int... bits) {
    Check.due("19: give(), " + what, toys.give(), give);
    for (int c = 0; c < bits.length; c++) {
      Check.due("21: gets(" + c + "), " + what, toys.gets(c), bits[c]);
    }
  }

  private static WinterToys two(String rules, int dayOne, int dayTwo) {
    WinterToys toys = Check.barn(KINDS + rules);
    toys.report(0, 1, 0, 0, dayOne);
    toys.report(0, 2, 0, 0, dayTwo);
    return toys;
  }

  private static void mostFirst() {
    WinterToys toys = two("likes 50 of a for age=1;never b for age=2;", 1, 1);
    toys.gifts(0, 1, 1);
    toys.gifts(1, 1, 1);
    gets("most gifts ahead of points", toys, 2, 2, 1);
    Check.due("20: points", toys.given(0), 0);
    toys = two("likes 0-5 of any for all;", 1, 1);
    toys.gifts(0, 1, 2);
    gets("a gift that is not liked is given, too", toys, 2, 1, 1);
    Check.due("20: points", toys.given(0), -10);
  }

  private static void pointsThen() {
    WinterToys toys = two("likes 5 of b for age=2;likes 4 of b for age=1;", 1, 1);
    toys.gifts(0, 1, 1);
    toys.gifts(1, 1, 1);
    gets("the greatest sum of points", toys, 2, 1, 2);
    Check.due("20: points", toys.given(0), 5);
    toys = two("likes 3 of a for age=1;likes 4 of a for age=2;", 1, 1);
    toys.gifts(0, 1, 1);
    gets("who likes it more", toys, 1, 0, 1);
  }

  private static void firstThen() {
    WinterToys toys = two("gifts 2 for all;", 1, 1);
    toys.gifts(0, 1, 1);
    toys.gifts(1, 1, 1);
    gets("of several the first", toys, 2, 3, 0);
    toys = two("", 1, 1);
    toys.gifts(1, 1, 2);
    toys.gifts(2, 1, 1);
    gets("the first KIND", toys, 2, 2, 2);
    toys = two("", 9, 1);
    toys.gifts(0, 1, 1);
    gets("the lesser CHILD, whatever its DAY", toys, 1, 1, 0);
    toys = two("gifts 3 for all;", 1, 1);
    toys.gifts(2, 1, 9);
    gets("each KIND once", toys, 2, 4, 4);
    Check.due("22: left(2)", toys.left(2), 7);
    toys = two("gifts 0 for age=1;", 1, 1);
    toys.gifts(0, 1, 9);
    gets("nothing is DUE", toys, 1, 0, 1);
  }

  private static void days() {
    WinterToys toys = two("", 4, 5);
    toys.gifts(0, 5, 2);
    gets("not ahead of the DAY on which it comes", toys, 1, 0, 1);
    Check.due("22: left(0)", toys.left(0), 1);
    toys = two("", 2, 3);
    toys.gifts(0, 1, 2);
    toys.call(0, 3);
    gets("called back from a DAY on", toys, 1, 1, 0);
    toys = two("likes 9 of a for age=1;", 4, 2);
    toys.gifts(0, 1, 1);
    toys.gifts(0, 3, 1);
    gets("what comes later is for the later one", toys, 2, 1, 1);
    toys = two("", 1, 1);
    int act = toys.gifts(0, 1, 2);
    toys.annul(act);
    gets("they were not so", toys, 0, 0, 0);
    toys.as(act);
    gets("as known ahead of that", toys, 2, 1, 1);
  }

  /** A chain of changes: each child must leave what it likes so that the last one gets something. */
  private static void chain() {
    WinterToys toys = Check.barn(KINDS + "kind d worth 1 price 1 at 1;likes 9 of a for age=1;likes 9 of b for age=2;"
        + "likes 9 of c for age=3;never c or d for age=1;never d or a for age=2;never a or b for age=3;"
        + "never not a for age=4;");
    for (int age = 1; age <= 4; age++) {
      toys.report(0, age, 0, 0, age);
    }
    for (int kind = 0; kind < 4; kind++) {
      toys.gifts(kind, 1, 1);
    }
    gets("all change", toys, 4, 2, 4, 8, 1);
    Check.due("20: points", toys.given(0), 0);
  }

  /** Givings that are as good as one another, where the first one is found by changes of several children at once. */
  private static void firstByChains() {
    WinterToys toys = two("never c for age=1;never b for age=2;likes 10 of any for all;", 5, 4);
    for (int kind = 0; kind < 3; kind++) {
      toys.gifts(kind, 1, 1);
    }
    gets("the other CHILD takes the one that is left over", toys, 2, 1, 4);
    toys = two("never b for age<3;likes 5 of a for age<3;likes 10 of a for age=3;likes 20 of b for age=3;", 5, 4);
    toys.report(0, 3, 0, 0, 5);
    toys.gifts(0, 1, 1);
    toys.gifts(1, 1, 1);
    gets("the other CHILD goes without", toys, 2, 1, 0, 2);
    toys = two("kind d worth 1 price 1 at 1;never a or d for age=1;never a or c for age=2;never b or d for age=3;"
        + "likes 10 of any for all;likes 1 of b for age=2;likes 1 of c for age=3;", 1, 1);
    toys.report(0, 3, 0, 0, 1);
    for (int kind = 0; kind < 4; kind++) {
      toys.gifts(kind, 1, 1);
    }
    gets("one loses a point, another one has it", toys, 3, 2, 8, 4);
    Check.due("20: points", toys.given(0), 31);
  }

  private static void blind() {
    WinterToys toys = two("never not a for age=2;", 1, 2);
    toys.gifts(0, 1, 1);
    toys.gifts(1, 1, 1);
    Check.due("23: blind()", toys.blind(), 1);
    gets("what comes behind is looked at", toys, 2, 2, 1);
    toys.gifts(0, 2, 1);
    Check.due("23: blind() as known now", toys.blind(), 2);
    Check.due("23: it changes nothing", toys.gets(0), 2);
    toys.as(0);
    Check.due("23: blind() as known ahead of all", toys.blind(), 0);
    toys = two("likes 1 of b for age=1;never not a for age=2;", 1, 2);
    toys.gifts(0, 1, 1);
    toys.gifts(1, 1, 1);
    Check.due("23: blind() by points", toys.blind(), 2);
  }

  private static void sums() {
    WinterToys toys = Check.barn(KINDS + "gifts 3 for age=1;gifts 2 for age=5;gifts 0 for age=9;likes 7 of b for all;");
    int[] none = {toys.given(0), toys.given(1), toys.gets(0), toys.left(0), toys.lacks(0, 17)};
    for (int n : none) {
      Check.due("20, 21, 22, 24: ahead of any give()", n, Check.NONE);
    }
    int[] ages = {1, 5, 9, 5};
    for (int age : ages) {
      toys.report(0, age, 0, 0, 9);
    }
    toys.gifts(0, 1, 2);
    toys.gifts(1, 9, 2);
    toys.gifts(1, 10, 5);
    gets("sums", toys, 4, 3, 3, 0, 0);
    Check.due("20: points", toys.given(0), 14);
    Check.due("20: CHILDREN with all", toys.given(1), 2);
    Check.due("20: gifts that lack", toys.given(2), 3);
    Check.due("20: gifts left over", toys.given(3), 5);
    Check.due("22: left(0)", toys.left(0), 0);
    Check.due("22: left(1)", toys.left(1), 5);
    Check.due("22: left(2)", toys.left(2), 0);
    Check.due("24: lacks(1, 1)", toys.lacks(1, 1), 1);
    Check.due("24: lacks(1, 5)", toys.lacks(1, 5), 3);
    Check.due("24: lacks(2, 5)", toys.lacks(2, 5), 2);
    Check.due("24: lacks(5, 1)", toys.lacks(5, 1), 0);
    Check.due("24: lacks of all", toys.lacks(Integer.MIN_VALUE, Integer.MAX_VALUE), 3);
    for (int i : new int[] {-1, 4, Integer.MIN_VALUE, Integer.MAX_VALUE}) {
      Check.due("20: given(" + i + ")", toys.given(i), Check.NONE);
      Check.due("21: gets(" + i + ")", toys.gets(i), Check.NONE);
      Check.due("22: left(" + i + ")", toys.left(i), Check.NONE);
    }
    Check.due("22: left(3)", toys.left(3), Check.NONE);
  }

  /** What is told of a giving is by all as it was then. */
  private static void asItWas() {
    WinterToys toys = two("", 1, 1);
    toys.gifts(0, 1, 1);
    gets("ahead", toys, 1, 1, 0);
    toys.annul(1);
    toys.gifts(0, 1, 5);
    toys.report(0, 2, 0, 0, 1);
    toys.as(0);
    Check.due("21: gets(0)", toys.gets(0), 1);
    Check.due("21: gets(1)", toys.gets(1), 0);
    Check.due("21: gets(2)", toys.gets(2), Check.NONE);
    Check.due("22: left(0)", toys.left(0), 0);
    Check.due("20: given(2)", toys.given(2), 1);
    Check.due("24: lacks(2, 2)", toys.lacks(2, 2), 1);
    gets("nothing is known", toys, 0);
    Check.due("21: gets(0)", toys.gets(0), Check.NONE);
    toys.as(-1);
    gets("behind", toys, 2, 1, 1);
    Check.due("22: left(0)", toys.left(0), 4);
  }

  private static void wrap() {
    WinterToys toys = Check.barn(KINDS + "likes 99999*99 of any for all;".repeat(23) + "gifts 3 for all;");
    for (int i = 0; i < 40; i++) {
      toys.report(0, 1, 0, 0, 1);
    }
    for (int kind = 0; kind < 3; kind++) {
      toys.gifts(kind, 1, 40);
    }
    Check.due("18: points", toys.points(39, 2), 23000000);
    Check.due("19: give()", toys.give(), 120);
    Check.due("20: it wraps", toys.given(0), (int) 2760000000L);
    Check.due("20: CHILDREN with all", toys.given(1), 40);
  }

  /** A child on each day, and on each day one gift less than is due up to it. */
  private static void everyDay() {
    WinterToys toys = Check.barn(KINDS);
    for (int day = 1; day <= 24; day++) {
      toys.report(0, 1, 0, 0, day);
      if (day > 1) {
        toys.gifts(0, day, 1);
      }
    }
    Check.due("23: blind()", toys.blind(), 23);
    Check.due("19: give()", toys.give(), 23);
    Check.due("21: gets(0)", toys.gets(0), 0);
    for (int child = 1; child < 24; child++) {
      Check.due("21: gets(" + child + ")", toys.gets(child), 1);
    }
    toys.gifts(1, 24, 1);
    toys.gifts(0, 1, 1);
    Check.due("19: give()", toys.give(), 24);
    Check.due("21: the last one has the first KIND", toys.gets(23), 1);
    Check.due("22: left(1)", toys.left(1), 1);
  }

  /** Gifts left over from rules with more KINDS must not be counted with those with fewer. */
  private static void fewerKinds() {
    WinterToys toys = Check.barn(KINDS);
    toys.gifts(2, 1, 9);
    Check.due("19: give()", toys.give(), 0);
    Check.due("20: left over", toys.given(3), 9);
    Check.due("4: rules()", Check.rules(toys, "kind a worth 10 price 0 at 0;"), 1);
    Check.due("19: give()", toys.give(), 0);
    Check.due("20: left over", toys.given(3), 0);
  }

  public static void main(String[] args) {
    mostFirst();
    pointsThen();
    firstThen();
    days();
    chain();
    firstByChains();
    blind();
    sums();
    asItWas();
    wrap();
    everyDay();
    fewerKinds();
    Check.finish("GivingTest");
  }
}
