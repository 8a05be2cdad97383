/** Promises 29 to 33: walks, bag, queue, label, at. */
public final class BagsTest {
  private static final String KINDS = "kind ball worth 1 price 0 at 5;kind b worth 1 price 0 at 200;"
      + "kind abcdefgh worth 1 price 7 at 0;";

  /** Each child gets just the kinds that its wishes name; their shelves are 5, 200, 0. */
  private static WinterToys barn(String... children) {
    WinterToys toys = Check.barn(KINDS + "gifts 3 for all;never ball for not wish ball;never b for not wish b;"
        + "never abcdefgh for not wish abcdefgh;");
    for (String child : children) {
      String[] parts = child.split("/");
      Check.report(toys, parts[0], 0, 1, 1, Integer.parseInt(parts[1]), Integer.parseInt(parts[2]));
    }
    for (int kind = 0; kind < 3; kind++) {
      toys.gifts(kind, 1, 40);
    }
    return toys;
  }

  private static void walking() {
    WinterToys toys = barn("ball/0/1", "b ball/0/1", "/0/1", "abcdefgh/0/2", "ball abcdefgh/0/1", "b/0/3");
    Check.due("29: ahead of any give()", toys.walks(1), Check.NONE);
    Check.due("30: ahead of any give()", toys.bag(0), Check.NONE);
    toys.give();
    int[] order = {1, 5, 0, 4, 3};
    for (int k = 0; k < order.length; k++) {
      Check.due("30: bag(" + k + ")", toys.bag(k), order[k]);
    }
    for (int k : new int[] {-1, 5, 40, Integer.MIN_VALUE, Integer.MAX_VALUE}) {
      Check.due("30: bag(" + k + ")", toys.bag(k), Check.NONE);
    }
    Check.due("29: walks(1)", toys.walks(1), 820);
    Check.due("29: walks(2)", toys.walks(2), 410);
    Check.due("29: walks(3)", toys.walks(3), 410);
    Check.due("29: walks(4)", toys.walks(4), 400);
    Check.due("29: walks(5)", toys.walks(5), 400);
    Check.due("29: walks(40)", toys.walks(40), 400);
    for (int b : new int[] {0, -1, 41, Integer.MIN_VALUE, Integer.MAX_VALUE}) {
      Check.due("29: walks(" + b + ")", toys.walks(b), Check.NONE);
    }
    toys.as(0);
    toys.give();
    Check.due("29: without BAGS", toys.walks(1), 0);
    Check.due("30: without BAGS", toys.bag(0), Check.NONE);
  }

  private static void bought() {
    WinterToys toys = Check.barn(KINDS);
    toys.report(0, 1, 1, 0, 4);
    toys.give();
    Check.due("30: no BAG yet", toys.bag(0), Check.NONE);
    Check.due("31: no house yet", toys.queue(4, 1, 0), 0);
    Check.due("32: no label yet", toys.label(0), Check.NONE);
    toys.spend(7);
    Check.due("30: a BAG of what was bought", toys.bag(0), 0);
    Check.due("31: a house", toys.queue(4, 1, 0), 1);
    Check.due("32: a label", toys.label(0), 9);
    Check.same("33: its bytes", Check.label(toys), "abcdefgh.");
  }

  /** On day 3: house 7 has 3 bags, children without house 1 each, house 8 has 2 (and another on day 4). */
  private static void queueing() {
    WinterToys toys = barn("b/7/3", "b/0/3", "b/7/3", "b/8/3", "b/8/4", "b/0/3", "b/7/3", "/8/3", "b/8/3", "/0/3");
    Check.due("31: ahead of any give()", toys.queue(3, 1, 0), Check.NONE);
    toys.give();
    // they take 3, 3, 4, 5 minutes
    int[][] want = {{1, 4, 19, 15}, {2, 4, 6, 8}, {3, 4, 3, 8}, {4, 4, 0, 5}, {9, 4, 0, 5}};
    for (int[] n : want) {
      for (int what = 0; what < 3; what++) {
        Check.due("31: queue(3, " + n[0] + ", " + what + ")", toys.queue(3, n[0], what), n[what + 1]);
      }
    }
    Check.due("31: houses on DAY 4", toys.queue(4, 1, 0), 1);
    Check.due("31: minutes on DAY 4", toys.queue(4, 1, 2), 3);
    Check.due("31: houses on DAY 5", toys.queue(5, 1, 0), 0);
    Check.due("31: waits on DAY 5", toys.queue(5, 1, 1), 0);
    Check.due("31: minutes on DAY 5", toys.queue(5, 1, 2), 0);
    int[][] wrong = {{0, 1, 0}, {25, 1, 0}, {3, 0, 0}, {3, 10, 0}, {3, 1, -1}, {3, 1, 3},
      {Integer.MIN_VALUE, 1, 0}, {3, Integer.MAX_VALUE, 0}, {3, 1, Integer.MIN_VALUE}};
    for (int[] n : wrong) {
      Check.due("31: queue(" + n[0] + ", " + n[1] + ", " + n[2] + ")", toys.queue(n[0], n[1], n[2]), Check.NONE);
    }
  }

  /** A house of forty on one day takes 42 minutes. */
  private static void greatHouse() {
    String[] children = new String[40];
    java.util.Arrays.fill(children, "b/9/2");
    WinterToys toys = barn(children);
    Check.due("19: give()", toys.give(), 40);
    Check.due("31: minutes", toys.queue(2, 3, 2), 42);
    toys.annul(1);
    Check.due("31: as it was then", toys.queue(2, 3, 2), 42);
  }

  private static void labels() {
    WinterToys toys = barn("ball b abcdefgh/0/1", "/0/1", "b/0/1");
    Check.due("32: ahead of any give()", toys.label(0), Check.NONE);
    Check.due("33: ahead of any label()", toys.at(0), Check.NONE);
    toys.give();
    Check.due("32: label(0)", toys.label(0), 18);
    Check.same("33: its bytes", Check.label(toys), "ball, b, abcdefgh.");
    for (int child : new int[] {1, -1, 3, Integer.MIN_VALUE, Integer.MAX_VALUE}) {
      Check.due("32: label(" + child + ")", toys.label(child), Check.NONE);
    }
    Check.same("33: of the latest that was not refused", Check.label(toys), "ball, b, abcdefgh.");
    for (int k : new int[] {-1, 18, 99, 100, Integer.MIN_VALUE, Integer.MAX_VALUE}) {
      Check.due("33: at(" + k + ")", toys.at(k), Check.NONE);
    }
    Check.due("32: label(2)", toys.label(2), 2);
    Check.same("33: its bytes", Check.label(toys), "b.");
    toys.as(0);
    toys.give();
    Check.same("33: still the latest", Check.label(toys), "b.");
  }

  /** Ten names of eight letters cannot be in one bag by gifts due, but by coins. */
  private static void longest() {
    StringBuilder rules = new StringBuilder("gifts 3 for all;even 0;");
    StringBuilder want = new StringBuilder();
    for (char c = 'a'; c < 'k'; c++) {
      String name = ("" + c).repeat(8);
      rules.append("kind ").append(name).append(" worth ").append(c == 'a' ? 9 : 1).append(" price 1 at 1;");
      want.append(c == 'a' ? "" : c == 'b' ? "" : ", ").append(c == 'a' ? "" : name);
    }
    rules.append("never aaaaaaaa for age=2;never not aaaaaaaa for age=1;gifts 1 for age=1;");
    WinterToys toys = Check.barn(rules.toString());
    toys.report(0, 1, 0, 4, 1);
    toys.report(0, 2, 0, 4, 1);
    toys.gifts(0, 1, 1);
    toys.give();
    Check.due("25: price", toys.price(1), 9);
    Check.due("26: spend", toys.spend(9), 1);
    Check.due("32: label", toys.label(1), 89);
    Check.same("33: its bytes", Check.label(toys), want + ".");
  }

  public static void main(String[] args) {
    walking();
    bought();
    queueing();
    greatHouse();
    labels();
    longest();
    Check.finish("BagsTest");
  }
}
