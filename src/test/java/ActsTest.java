/** Promises 8 to 13: report, gifts, call, annul, as, all. */
public final class ActsTest {
  private static final String KINDS = "kind a worth 1 price 0 at 0 is m;kind b worth 1 price 0 at 0;gifts 2 for all;";

  private static void reportNumbers() {
    WinterToys toys = new WinterToys();
    int[][] most = {{0, 9999}, {0, 17}, {0, 99}, {0, 999}, {1, 24}};
    int act = 0;
    for (int i = 0; i < 5; i++) {
      for (int side = 0; side < 2; side++) {
        int[] n = {0, 5, 5, 5, 5};
        n[i] = most[i][side];
        act++;
        Check.due("8: number " + i + " = " + n[i], toys.report(n[0], n[1], n[2], n[3], n[4]), act);
        n[i] += side == 0 ? -1 : 1;
        Check.due("8: number " + i + " = " + n[i], toys.report(n[0], n[1], n[2], n[3], n[4]), Check.NONE);
        n[i] = side == 0 ? Integer.MIN_VALUE : Integer.MAX_VALUE;
        Check.due("8: number " + i + " = " + n[i], toys.report(n[0], n[1], n[2], n[3], n[4]), Check.NONE);
      }
    }
    Check.due("8: ACTS", toys.all(3), act);
  }

  private static void wishes() {
    String[] sound = {"", " ", "\n", "a", " a ", "a b", "\na\n\nb  c\n", "abcdefgh", "a a a", "kinds"};
    WinterToys toys = new WinterToys();
    int act = 0;
    for (String text : sound) {
      act++;
      Check.due("8: wishes " + text, Check.report(toys, text, 0, 1, 1, 1, 1), act);
    }
    String[] wrong = {"a b c d", "abcdefghi", "kind", "a all", "a,b", "5", "a5", "A", "a\tb", "a b c ;", "a b c kind",
      "\u00e9"};
    for (String text : wrong) {
      Check.due("8: wishes " + text, Check.report(toys, text, 0, 1, 1, 1, 1), Check.NONE);
      Check.due("8: the tape goes", toys.end(1), false);
    }
    for (String own : Model.OWN) {
      Check.due("8: wish " + own, Check.report(toys, own, 0, 1, 1, 1, 1), Check.NONE);
    }
    Check.text(toys, "a");
    Check.due("8: a number that can't be", toys.report(0, 18, 1, 1, 1), Check.NONE);
    Check.due("8: the tape goes then, too", toys.end(1), false);
    Check.due("8: ACTS", toys.all(3), act);
  }

  private static void tooMany() {
    WinterToys toys = Check.barn(KINDS);
    for (int i = 1; i <= 80; i++) {
      Check.due("8: report " + i, toys.report(i, 1, 1, 1, 1), i);
    }
    Check.due("8: report 81", toys.report(81, 1, 1, 1, 1), Check.NONE);
    Check.due("11: annul", toys.annul(1), 81);
    Check.due("8: report behind annul", toys.report(81, 1, 1, 1, 1), Check.NONE);
    for (int i = 82; i <= 198; i++) {
      Check.due("9: gifts " + i, toys.gifts(0, 1, 1), i);
    }
    Check.due("10: call", toys.call(1, 1), 199);
    Check.due("11: annul", toys.annul(199), 200);
    Check.due("9: gifts 201", toys.gifts(0, 1, 1), Check.NONE);
    Check.due("10: call 201", toys.call(0, 1), Check.NONE);
    Check.due("11: annul 201", toys.annul(2), Check.NONE);
    Check.due("13: ACTS", toys.all(3), 200);
    Check.due("12: as(200)", toys.as(200), true);
    Check.due("13: as known at", toys.all(4), 200);
    Check.due("12: as(201)", toys.as(201), false);
    Check.due("4: rules", Check.rules(toys, KINDS), 3);
    Check.due("8: report anew", toys.report(1, 1, 1, 1, 1), 1);
  }

  private static void actsAreFullForReports() {
    WinterToys toys = Check.barn(KINDS);
    for (int i = 1; i <= 200; i++) {
      toys.gifts(0, 1, 1);
    }
    Check.text(toys, "a");
    Check.due("8: report 201", toys.report(0, 1, 1, 1, 1), Check.NONE);
    Check.due("8: the tape goes", toys.end(1), false);
  }

  /** The last act there may be is a report like any other. */
  private static void lastActIsReport() {
    WinterToys toys = Check.barn(KINDS);
    for (int i = 1; i <= 120; i++) {
      toys.gifts(0, 24, 1);
    }
    for (int i = 121; i <= 199; i++) {
      toys.report(i % 39 + 1, 1, 1, 1, 1);
    }
    Check.due("8: report 200", Check.report(toys, "x y z", 999, 2, 3, 4, 5), 200);
    Check.due("14: its CHILD", toys.child(200), 39);
    Check.due("15: its AGE", toys.of(39, 1), 2);
    Check.same("16: its last WISH", Check.wish(toys, 39, 2), "z");
  }

  private static void giftsAndCalls() {
    WinterToys toys = Check.barn(KINDS);
    int[] wrongKinds = {-1, 2, Integer.MIN_VALUE, Integer.MAX_VALUE};
    int[] wrongDays = {0, 25, -1, Integer.MIN_VALUE, Integer.MAX_VALUE};
    int[] wrongCounts = {0, 100, -1, Integer.MIN_VALUE, Integer.MAX_VALUE};
    for (int kind : wrongKinds) {
      Check.due("9: KIND " + kind, toys.gifts(kind, 1, 1), Check.NONE);
      Check.due("10: KIND " + kind, toys.call(kind, 1), Check.NONE);
    }
    for (int day : wrongDays) {
      Check.due("9: DAY " + day, toys.gifts(0, day, 1), Check.NONE);
      Check.due("10: DAY " + day, toys.call(0, day), Check.NONE);
    }
    for (int n : wrongCounts) {
      Check.due("9: so many " + n, toys.gifts(0, 1, n), Check.NONE);
    }
    Check.due("9: gifts", toys.gifts(0, 1, 1), 1);
    Check.due("9: gifts", toys.gifts(1, 24, 99), 2);
    Check.due("10: call", toys.call(0, 1), 3);
    Check.due("10: call", toys.call(1, 24), 4);
    Check.due("10: call again", toys.call(1, 24), 5);
    Check.due("13: ACTS", toys.all(3), 5);
  }

  private static void annulling() {
    WinterToys toys = Check.barn(KINDS);
    toys.report(5, 1, 1, 1, 1);
    toys.gifts(0, 1, 1);
    toys.call(0, 1);
    for (int act : new int[] {0, -1, 4, Integer.MIN_VALUE, Integer.MAX_VALUE}) {
      Check.due("11: annul " + act, toys.annul(act), Check.NONE);
    }
    Check.due("11: annul(3)", toys.annul(3), 4);
    Check.due("11: annul(3) again", toys.annul(3), Check.NONE);
    Check.due("11: annul of one that tells so", toys.annul(4), Check.NONE);
    Check.due("11: annul(1)", toys.annul(1), 5);
    Check.due("11: annul(2)", toys.annul(2), 6);
    Check.due("12: as(1)", toys.as(1), true);
    Check.due("11: it is VOID, though not known so", toys.annul(2), Check.NONE);
    Check.due("11: an ACT above as()", toys.annul(6), Check.NONE);
  }

  private static void asKnown() {
    WinterToys toys = Check.barn(KINDS);
    Check.due("12: as(0) without acts", toys.as(0), true);
    Check.due("12: as(1) without acts", toys.as(1), false);
    toys.report(0, 1, 1, 1, 1);
    Check.due("12: as(0) stays", toys.all(5), 0);
    Check.due("13: as known at 0", toys.all(4), 0);
    Check.due("12: as(NONE)", toys.as(-1), true);
    Check.due("12: all is known", toys.all(5), 1);
    Check.due("13: as known at the last", toys.all(4), 1);
    toys.report(0, 1, 1, 1, 1);
    Check.due("13: always the last", toys.all(4), 2);
    Check.due("12: as(1)", toys.as(1), true);
    Check.due("12: as(3)", toys.as(3), false);
    Check.due("12: as(-2)", toys.as(-2), false);
    Check.due("12: as(least)", toys.as(Integer.MIN_VALUE), false);
    Check.due("12: refused ones do nothing", toys.all(4), 1);
    Check.due("12: one CHILD", toys.all(5), 1);
    Check.due("11: annul(1)", toys.annul(1), 3);
    Check.due("12: not VOID by then", toys.all(5), 1);
    toys.as(2);
    Check.due("12: nor then", toys.all(5), 2);
    toys.as(3);
    Check.due("12: VOID by then", toys.all(5), 1);
    Check.due("13: ACTS are all", toys.all(3), 3);
  }

  private static void allSums() {
    WinterToys toys = Check.barn(KINDS + "even 9;even 5;never m for age<3;");
    Check.due("13: KINDS", toys.all(0), 2);
    Check.due("13: MARKS", toys.all(1), 1);
    Check.due("13: other STATEMENTS", toys.all(2), 4);
    Check.due("13: the last EVEN", toys.all(7), 5);
    for (int what : new int[] {-1, 8, Integer.MIN_VALUE, Integer.MAX_VALUE}) {
      Check.due("13: all(" + what + ")", toys.all(what), Check.NONE);
    }
    toys.report(0, 3, 4, 5, 1);
    toys.report(0, 3, 4, 5, 2);
    Check.due("13: DOUBT of two without CODE", toys.all(6), 1);
    toys.report(7, 3, 4, 5, 3);
    Check.due("13: DOUBT with one with a CODE", toys.all(6), 3);
    toys.report(8, 3, 4, 5, 3);
    Check.due("13: no DOUBT between two CODES", toys.all(6), 5);
    toys.report(0, 3, 4, 0, 1);
    toys.report(0, 3, 4, 0, 1);
    Check.due("13: no DOUBT without HOUSE", toys.all(6), 5);
    toys.report(0, 2, 4, 5, 1);
    toys.report(0, 3, 3, 5, 1);
    toys.report(0, 3, 4, 6, 1);
    Check.due("13: no DOUBT with another AGE, SCHOOL, HOUSE", toys.all(6), 5);
    toys.report(8, 3, 4, 6, 1);
    Check.due("13: DOUBT by the last REPORT", toys.all(6), 4);
  }

  public static void main(String[] args) {
    reportNumbers();
    wishes();
    tooMany();
    actsAreFullForReports();
    lastActIsReport();
    giftsAndCalls();
    annulling();
    asKnown();
    allSums();
    Check.finish("ActsTest");
  }
}
