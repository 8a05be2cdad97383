/** Promises 14 to 18: child, of, wish, may, points. */
public final class ChildrenTest {
  private static final String KINDS = "kind a worth 1 price 0 at 0 is m;kind b worth 1 price 0 at 0;"
      + "kind c worth 1 price 0 at 0 is m,n;";

  private static void facts(WinterToys toys, int child, int... want) {
    for (int what = 0; what < want.length; what++) {
      Check.due("15: of(" + child + ", " + what + ")", toys.of(child, what), want[what]);
    }
  }

  private static void merging() {
    WinterToys toys = Check.barn(KINDS);
    Check.report(toys, "x y", 7, 5, 1, 9, 3);
    Check.report(toys, "", 0, 6, 2, 9, 4);
    Check.report(toys, "y z x", 7, 9, 3, 8, 5);
    Check.report(toys, "", 0, 6, 2, 9, 4);
    toys.gifts(0, 1, 1);
    Check.report(toys, "v w", 7, 4, 3, 9, 6);
    int[] children = {-1, 0, 1, 0, 2, -1, 0, -1};
    for (int act = 0; act < children.length; act++) {
      Check.due("14: child(" + act + ")", toys.child(act), children[act]);
    }
    Check.due("14: child(least)", toys.child(Integer.MIN_VALUE), Check.NONE);
    Check.due("14: child(most)", toys.child(Integer.MAX_VALUE), Check.NONE);
    facts(toys, 0, 7, 4, 5, 3, 9, 6, 4, 3, 3, 1);
    facts(toys, 1, 0, 6, 0, 2, 9, 4, 0, 3, 1, 1);
    Check.same("16: WISH 0", Check.wish(toys, 0, 0), "x");
    Check.same("16: WISH 1", Check.wish(toys, 0, 1), "y");
    Check.same("16: WISH 2", Check.wish(toys, 0, 2), "z");
    Check.same("16: WISH 3", Check.wish(toys, 0, 3), "v");
    Check.due("16: there is no fifth", toys.wish(0, 4, 0), Check.NONE);
    toys.as(3);
    facts(toys, 0, 7, 9, 4, 3, 8, 5, 3, 1, 2, 1);
    Check.due("14: not known", toys.child(4), Check.NONE);
    toys.as(-1);
    toys.annul(1);
    Check.due("14: VOID", toys.child(1), Check.NONE);
    Check.due("14: numbers by the first REPORT that is not VOID", toys.child(2), 0);
    Check.due("14: and so on", toys.child(3), 1);
    facts(toys, 1, 7, 4, 5, 3, 9, 6, 4, 3, 2, 1);
    Check.same("16: WISH 0", Check.wish(toys, 1, 0), "y");
    toys.as(6);
    Check.due("14: not VOID by then", toys.child(1), 0);
  }

  private static void noneSuch() {
    WinterToys toys = Check.barn(KINDS);
    Check.report(toys, "abcdefgh", 0, 0, 0, 0, 1);
    for (int i : new int[] {-1, 1, Integer.MIN_VALUE, Integer.MAX_VALUE}) {
      Check.due("15: CHILD " + i, toys.of(i, 0), Check.NONE);
      Check.due("16: CHILD " + i, toys.wish(i, 0, 0), Check.NONE);
      Check.due("16: WISH " + i, toys.wish(0, i, 0), Check.NONE);
      Check.due("17: CHILD " + i, toys.may(i, 0), Check.NONE);
      Check.due("18: CHILD " + i, toys.points(i, 0), -2000000000);
    }
    for (int i : new int[] {-1, 10, Integer.MIN_VALUE, Integer.MAX_VALUE}) {
      Check.due("15: what " + i, toys.of(0, i), Check.NONE);
      Check.due("16: letter " + i, toys.wish(0, 0, i), Check.NONE);
      Check.due("17: KIND " + i, toys.may(0, i), Check.NONE);
      Check.due("18: KIND " + i, toys.points(0, i), -2000000000);
    }
    Check.due("16: letter 7", toys.wish(0, 0, 7), 'h');
    Check.due("16: letter 8", toys.wish(0, 0, 8), Check.NONE);
    Check.due("17: KIND 3", toys.may(0, 3), Check.NONE);
    Check.due("18: KIND 3", toys.points(0, 3), -2000000000);
  }

  /** CHILDREN beyond 40 are not there, neither for their house. */
  private static void forty() {
    WinterToys toys = Check.barn(KINDS);
    for (int i = 1; i <= 45; i++) {
      toys.report(i, 1, 1, 3, 1);
    }
    toys.report(45, 1, 1, 3, 1);
    toys.report(40, 1, 1, 3, 1);
    Check.due("13: CHILDREN", toys.all(5), 40);
    Check.due("14: the 40th", toys.child(40), 39);
    Check.due("14: the 41st", toys.child(41), Check.NONE);
    Check.due("14: again", toys.child(46), Check.NONE);
    Check.due("14: the 40th again", toys.child(47), 39);
    Check.due("15: house", toys.of(0, 7), 40);
    Check.due("15: the 41st", toys.of(40, 0), Check.NONE);
    toys.annul(1);
    Check.due("14: the 41st comes in", toys.child(41), 39);
    Check.due("15: it is there", toys.of(39, 0), 41);
  }

  private static void due(String statements, int want) {
    WinterToys toys = Check.barn(KINDS + statements);
    Check.report(toys, "x a", 5, 6, 8, 4, 1);
    Check.report(toys, "y", 5, 9, 7, 3, 2);
    toys.report(6, 1, 1, 3, 1);
    Check.due("15: DUE by " + statements, toys.of(0, 9), want);
  }

  private static void dues() {
    due("", 1);
    due("gifts 2 for all;", 2);
    due("gifts 0 for all;", 0);
    due("gifts 0-5 for all;", 0);
    due("gifts 4 for all;", 3);
    due("gifts 2 for all;gifts 3 for age<9;", 2);
    due("gifts 2 for all;gifts 3 for age=9;", 3);
    due("gifts 3 for age=9;gifts 2 for all;", 2);
    due("gifts ages for all;", 3);
    due("gifts wishes-1 for wishes=3;", 2);
    due("gifts house for school=7;", 2);
    due("gifts 1+2*3-8 for all;", 1);
    due("gifts 1+(2*3)-5 for all;", 2);
    due("gifts 3 for wish x and wish y;", 3);
    due("gifts 3 for wish x and wish z;", 1);
    due("gifts 3 for wish a;", 3);
    due("gifts 3 for wish z or wish x and wish y;", 3);
    due("gifts 3 for [wish z or wish x] and wish z;", 1);
    due("gifts 3 for wish x or wish z and wish z;", 3);
    due("gifts 3 for not wish z and wish x;", 3);
    due("gifts 3 for not [wish z or wish x];", 1);
    due("gifts 3 for not not wish x;", 3);
    due("gifts 3 for 99999*11=(99999*99);", 3);
    due("gifts 3 for 0-(99999*11)=(0-(99999*12));", 3);
    due("gifts 3 for 99999*99-(99999*5)-(99999*5)=10;", 3);
    due("gifts 3 for 99999*11-1000000+1=1;".replace("1000000", "(99999*10)-10"), 3);
    due("gifts 3 for 2<2 or 2>2;", 1);
    due("gifts 3 for 1<2 and 2>1 and 2=2;", 3);
  }

  /** All that can be open at once is open, with as much as can be held back at each. */
  private static void deepest() {
    String yes = "1=1";
    String no = "1=2";
    String sum = "1";
    for (int i = 0; i < 8; i++) {
      yes = "1=2 or 1=1 and [" + yes + "]";
      no = "1=2 or 1=1 and not not [" + no + "]";
      sum = "1+(" + sum + ")";
    }
    due("gifts 3 for " + yes + ";", 3);
    due("gifts 3 for " + no + ";", 1);
    due("gifts " + sum + "-7 for all;", 2);
    due("gifts 3 for 0=1 or 0=0 and [0=1 or 0=0 and [0=1 or 0=0 and [3=(9-(8-(7-(6-(5-4)))))]]];", 3);
    due("gifts 3 for " + "wish z or ".repeat(80) + "wish y;", 3);
  }

  private static void mays() {
    WinterToys toys = Check.barn(KINDS + "never m and not n for age<3;never b or n for age>15;never any for wish none;"
        + "kind d worth 1 price 1 at 1 is m;never not a for school=9;");
    Check.report(toys, "", 0, 2, 0, 0, 5);
    Check.report(toys, "", 0, 16, 0, 0, 5);
    Check.report(toys, "none", 0, 5, 0, 0, 5);
    Check.report(toys, "", 0, 5, 0, 0, 5);
    Check.report(toys, "", 0, 5, 9, 0, 5);
    int[][] may = {{0, 1, 1, 0}, {1, 0, 0, 1}, {0, 0, 0, 0}, {1, 1, 1, 1}, {1, 0, 0, 0}};
    for (int c = 0; c < may.length; c++) {
      for (int k = 0; k < 4; k++) {
        Check.due("17: may(" + c + ", " + k + ")", toys.may(c, k), may[c][k]);
      }
    }
    toys.call(1, 6);
    Check.due("17: a CALL behind its DAY", toys.may(3, 1), 1);
    int act = toys.call(1, 5);
    Check.due("17: a CALL on its DAY", toys.may(3, 1), 0);
    Check.due("17: of that KIND alone", toys.may(3, 0), 1);
    toys.annul(act);
    Check.due("17: it was not so", toys.may(3, 1), 1);
    toys.call(1, 4);
    Check.due("17: a CALL ahead of its DAY", toys.may(3, 1), 0);
    toys.as(act);
    Check.due("17: as known", toys.may(3, 1), 0);
    toys.as(act - 1);
    Check.due("17: as known ahead of it", toys.may(3, 1), 1);
  }

  private static void pointSums() {
    WinterToys toys = Check.barn(KINDS + "likes 5 of m for all;likes age-10 of n or b for age>3;"
        + "likes 99999*99 of b for age=9;likes 99999*99 of b for age=9;never a for all;");
    toys.report(0, 3, 0, 0, 1);
    toys.report(0, 4, 0, 0, 1);
    toys.report(0, 9, 0, 0, 1);
    int[][] points = {{5, 0, 5}, {5, -6, -1}, {5, 1999999, 4}};
    for (int c = 0; c < 3; c++) {
      for (int k = 0; k < 3; k++) {
        Check.due("18: points(" + c + ", " + k + ")", toys.points(c, k), points[c][k]);
      }
    }
  }

  public static void main(String[] args) {
    merging();
    noneSuch();
    forty();
    dues();
    deepest();
    mays();
    pointSums();
    Check.finish("ChildrenTest");
  }
}
