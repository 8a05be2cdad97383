/** Promises 4 to 7: rules, fault, name, marked. */
public final class RulesTest {
  private static final String A = "kind a worth 1 price 0 at 0;";
  private static final String AM = "kind a worth 1 price 0 at 0 is m;";

  private static void fault(int number, String text) {
    Check.fault(number, text);
  }

  private static void sound(int statements, String text) {
    Check.sound(statements, text);
  }

  private static void soundTexts() {
    sound(0, "");
    sound(0, " \n ");
    sound(1, "even 5;");
    sound(2, "\neven\n00005 ; even 1000;");
    sound(1, "kind abcdefgh worth 500 price 1000 at 200;");
    sound(1, "kind a worth 00001 price 0 at 0 is b,c , d;");
    sound(3, AM + "kind b worth 1 price 1 at 1 is m,n;never a or m and not not[n]or any for all;");
    sound(1, "gifts 1+2-3*4for 1<2 and not 3>2 or wish x;".replace("4for", "4 for"));
    sound(1, "gifts(age)for(ages)=((school));");
    sound(1, "likes 0-4 of any for not[house<wishes];");
    sound(1, "never[[[[[[[[any]]]]]]]]for[[[[[[[[all]]]]]]]]and[all];");
    sound(1, "gifts 1 for [[[[((((1))))=1]]]];");
    sound(1, "gifts 1 for " + "not ".repeat(240) + "all;");
    sound(1, "gifts 1" + "+1".repeat(480) + " for 1<2;");
  }

  private static void firstFaults() {
    fault(1, "even 5^");
    fault(1, "even 5 \n^");
    fault(1, "even^");
    fault(1, "^eve");
    fault(1, "even^5;");
    fault(1, "even 5^a;");
    fault(1, "even ^;");
    fault(1, "even 5;^;");
    fault(1, "even^\t5;");
    fault(1, "^Even 5;");
    fault(1, "even 5;^\u00e9");
    fault(1, "abcdefgh^i");
    fault(1, "^abcdefgh");
    fault(1, "even abcdefgh^i;");
    fault(1, "12345^6");
    fault(1, "^12345");
    fault(1, "even 12345^6;");
    fault(1, "even12345^6;");
    fault(1, "even 5abcdefgh^i;");
    fault(1, "^;abcdefghi");
    fault(1, "kind ^kind worth 1 price 0 at 0;");
    fault(1, "kind ^5");
    fault(1, "kind a^5");
    fault(1, "kind a worth 1 price 0 at 0 is ^wishes;");
    fault(1, "kind a worth 1 price 0 at 0 is m,^;");
    fault(1, "kind a worth 1 price 0 at 0 is m ^n;");
    fault(1, "kind a worth 1 price 0 at 0 ^m;");
    fault(1, "kind a ^price 0 at 0;");
    fault(1, "never ^all for all;");
    fault(1, "never any for ^any;");
    fault(1, "never any for all or^");
    fault(1, "never not^;");
    fault(1, A + "never a ^a for all;");
    fault(1, "likes 1 ^any for all;");
    fault(1, "likes 1 ^never any for all;");
    fault(1, "never any ^never any for all;");
    fault(1, "gifts 1 ^even 5;");
    fault(1, "likes 1 of any ^all;");
    fault(1, "gifts ^-1 for all;");
    fault(1, "gifts ^any for all;");
    fault(1, "gifts ^[1] for all;");
    fault(1, "gifts (1^] for all;");
    fault(1, "gifts 1 for [all^);");
    fault(1, "gifts 1 for 1^;");
    fault(1, "gifts 1 for 1<^;");
    fault(1, "gifts 1 for 1<2^<3;");
    fault(1, "gifts 1 for [1^];");
    fault(1, "gifts 1 for ^x;");
    fault(1, "gifts 1 for wish ^all;");
    fault(1, "gifts 1 for wish ^5;");
    fault(1, "gifts 1 for (^all);");
  }

  private static void otherFaults() {
    fault(2, A + "kind ^a worth 1 price 0 at 0;");
    fault(2, AM + "kind ^m worth 1 price 0 at 0;");
    fault(2, "kind a worth 1 price 0 at 0 is m,n,^m;");
    fault(2, "kind a worth 1 price 0 at 0 is m,^a;");
    fault(2, A + "kind b worth 1 price 0 at 0 is ^a;");
    fault(2, A + "kind ^a");
    fault(3, "never ^a for all;" + A);
    fault(3, AM + "never a or [m and not ^n] for all;");
    fault(3, AM + "likes 1 of ^b");
    fault(4, "kind a worth ^0 price 0 at 0;");
    fault(4, "kind a worth ^501 price 0 at 0;");
    fault(4, "kind a worth 1 price ^1001 at 0;");
    fault(4, "kind a worth 1 price 0 at ^201;");
    fault(4, "even ^1001;");
    fault(4, "even ^99999");
    fault(5, "never [[[[[[[[^[any]]]]]]]]] for all;");
    fault(5, "gifts ((((((((^(1))))))))) for all;");
    fault(5, "gifts 1 for [[[[((((^(1)))))=1]]]];");
    fault(5, "gifts 1 for [[[[[[[[^[all]]]]]]]]];");
  }

  private static void limits() {
    StringBuilder kinds = new StringBuilder();
    for (char c = 'a'; c <= 'j'; c++) {
      kinds.append("kind ").append(c).append(" worth 1 price 1 at 1;");
    }
    sound(10, kinds.toString());
    fault(5, kinds + "^kind a");
    sound(11, kinds + "even 1;");
    sound(24, "even 1;".repeat(24));
    fault(5, "even 1;".repeat(24) + "^even 2;");
    fault(5, "even 1;".repeat(24) + "^never");
    fault(1, "even 1;".repeat(24) + "^ever");
    sound(25, "even 1;".repeat(24) + A);
    String eight = "kind z worth 1 price 1 at 1 is a,b,c,d,e,f,g,h;";
    sound(1, eight);
    fault(5, eight + "kind y worth 1 price 1 at 1 is a,^i;");
    fault(5, "kind z worth 1 price 1 at 1 is a,b,c,d,e,f,g,h,^i;");
    fault(2, eight + "kind y worth 1 price 1 at 1 is ^z;");
    sound(2, eight + "kind y worth 1 price 1 at 1 is a,h;");
  }

  private static void whatStays() {
    WinterToys toys = Check.barn(AM + "even 7;");
    Check.due("4: report", Check.report(toys, "", 0, 1, 1, 0, 1), 1);
    Check.due("4: gifts", toys.gifts(0, 1, 1), 2);
    Check.due("4: as(2)", toys.as(2), true);
    Check.due("4: give()", toys.give(), 1);
    Check.due("4: gifts", toys.gifts(0, 1, 1), 3);
    Check.due("4: a fault", Check.rules(toys, "even 8;kind b worth 0"), -1);
    Check.due("4: the tape went", toys.end(1), false);
    Check.due("4: EVEN stays", toys.all(7), 7);
    Check.due("4: KINDS stay", toys.all(0), 1);
    Check.same("4: their names stay", Check.name(toys, false, 0), "a");
    Check.due("4: ACTS stay", toys.all(3), 3);
    Check.due("4: as() stays", toys.all(4), 2);
    Check.due("4: give() stays", toys.gets(0), 1);
    Check.due("4: sound ones", Check.rules(toys, "even 8;"), 1);
    Check.due("4: the fault is gone", toys.fault(0), 0);
    Check.due("4: EVEN", toys.all(7), 8);
    Check.due("4: KINDS", toys.all(0), 0);
    Check.due("4: MARKS", toys.all(1), 0);
    Check.due("4: ACTS go", toys.all(3), 0);
    Check.due("4: there is no give()", toys.gets(0), Check.NONE);
    Check.due("4: nor its sums", toys.given(0), Check.NONE);
    Check.due("4: nor right()", toys.right(), Check.NONE);
    Check.due("4: ACTS begin anew", Check.report(toys, "", 0, 1, 1, 0, 1), 1);
    Check.due("4: as() is NONE", toys.all(4), 1);
    Check.due("4: sound ones of nothing", toys.rules(), 0);
    Check.due("4: EVEN without any", toys.all(7), 1000);
  }

  /** What was read ahead takes no room from what is read behind it, and opens nothing in it. */
  private static void againAndAgain() {
    WinterToys toys = new WinterToys();
    String tooOpen = "never " + "[".repeat(9) + "any" + "]".repeat(9) + " for all;";
    for (int i = 0; i < 3; i++) {
      Check.due("4: too much is open, again", Check.rules(toys, tooOpen), -1);
      Check.due("5: too much is open, again", toys.fault(0), 5);
      Check.due("5: its place, again", toys.fault(1), 14);
    }
    Check.due("4: sound behind it", Check.rules(toys, tooOpen.replace("[[", "[").replace("]]", "]")), 1);
    toys = new WinterToys();
    String sums = "gifts 1" + "-1+1".repeat(240) + "+1 for all;";
    for (int i = 0; i < 5; i++) {
      Check.due("4: a long sum, again", Check.rules(toys, sums), 1);
      Check.due("8: a report", toys.report(0, 1, 1, 0, 1), 1);
      Check.due("15: DUE by a long sum, again", toys.of(0, 9), 2);
    }
    toys = new WinterToys();
    String wishes = "gifts 2 for " + "wish a or ".repeat(96) + "wish z;";
    for (int i = 0; i < 6; i++) {
      Check.due("4: many WISHES, again", Check.rules(toys, wishes), 1);
      Check.due("8: a report", Check.report(toys, "z", 0, 1, 1, 0, 1), 1);
      Check.due("15: DUE by the last of many WISHES, again", toys.of(0, 9), 2);
    }
  }

  private static void names() {
    WinterToys toys = Check.barn("kind ball worth 1 price 0 at 0 is red,soft;kind abcdefgh worth 1 price 0 at 0;"
        + "kind c worth 1 price 0 at 0 is loud, red;");
    Check.same("6: KIND 0", Check.name(toys, false, 0), "ball");
    Check.same("6: KIND 1", Check.name(toys, false, 1), "abcdefgh");
    Check.same("6: KIND 2", Check.name(toys, false, 2), "c");
    Check.same("6: MARK 0", Check.name(toys, true, 0), "red");
    Check.same("6: MARK 1", Check.name(toys, true, 1), "soft");
    Check.same("6: MARK 2", Check.name(toys, true, 2), "loud");
    for (int i : new int[] {-1, 3, Integer.MIN_VALUE, Integer.MAX_VALUE}) {
      Check.due("6: KIND " + i, toys.name(false, i, 0), Check.NONE);
      Check.due("6: MARK " + i, toys.name(true, i, 0), Check.NONE);
      Check.due("7: marked of KIND " + i, toys.marked(i, 0), Check.NONE);
      Check.due("7: marked of MARK " + i, toys.marked(0, i), Check.NONE);
    }
    for (int k : new int[] {-1, 8, 9, Integer.MIN_VALUE, Integer.MAX_VALUE}) {
      Check.due("6: letter " + k, toys.name(false, 1, k), Check.NONE);
    }
    int[][] marked = {{1, 1, 0}, {0, 0, 0}, {1, 0, 1}};
    for (int kind = 0; kind < 3; kind++) {
      for (int mark = 0; mark < 3; mark++) {
        Check.due("7: marked(" + kind + ", " + mark + ")", toys.marked(kind, mark), marked[kind][mark]);
      }
    }
  }

  public static void main(String[] args) {
    soundTexts();
    firstFaults();
    otherFaults();
    limits();
    whatStays();
    againAndAgain();
    names();
    Check.finish("RulesTest");
  }
}
