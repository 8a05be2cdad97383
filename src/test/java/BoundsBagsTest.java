/** The bounds that the document names for bags (Terms, IV; promises 29 to 33), a method for each sentence. */
public final class BoundsBagsTest {
  private static final String KINDS = "kind a worth 1 price 4 at 0;kind b worth 1 price 0 at 1;"
      + "kind c worth 1 price 0 at 199;kind d worth 1 price 0 at 200;";
  private static final int LEAST = Integer.MIN_VALUE;
  private static final int MOST = Integer.MAX_VALUE;

  /** Each child gets the kinds that its wishes name, if there are 40 of each; it is told as wishes/house/day. */
  private static WinterToys barn(String... children) {
    WinterToys toys = Check.barn(KINDS + "gifts 3 for all;never a for not wish a;never b for not wish b;"
        + "never c for not wish c;never d for not wish d;");
    for (String child : children) {
      String[] parts = child.split("/");
      Check.report(toys, parts[0], 0, 1, 1, Integer.parseInt(parts[1]), Integer.parseInt(parts[2]));
    }
    for (int kind = 0; kind < 4; kind++) {
      toys.gifts(kind, 1, 40);
    }
    return toys;
  }

  private static String[] many(int n, String child) {
    String[] all = new String[n];
    java.util.Arrays.fill(all, child);
    return all;
  }

  private static void order(WinterToys toys, int... children) {
    for (int k = 0; k < children.length; k++) {
      Check.due("30: bag(" + k + ")", toys.bag(k), children[k]);
    }
    for (int k : new int[] {-1, children.length, children.length + 1, 40, LEAST, MOST}) {
      Check.due("30: bag(" + k + ")", toys.bag(k), Check.NONE);
    }
  }

  /** "A BAG is what a CHILD has that got or was bought something": nothing is no bag. */
  private static void somethingOrNothing() {
    WinterToys toys = barn("/0/1", "b/0/1", "/0/1");
    Check.due("30: ahead of any give()", toys.bag(0), Check.NONE);
    toys.give();
    order(toys, 1);
    Check.due("32: it has none", toys.label(0), Check.NONE);
    Check.due("32: it has one", toys.label(1), 2);
    WinterToys bought = Check.barn("kind a worth 1 price 4 at 9;");
    bought.report(0, 1, 1, 0, 1);
    bought.give();
    order(bought);
    Check.due("29: no BAG", bought.walks(1), 0);
    bought.spend(3);
    order(bought);
    bought.give();
    bought.spend(4);
    order(bought, 0);
    Check.due("29: a BAG", bought.walks(1), 18);
    Check.due("31: a house", bought.queue(1, 1, 0), 1);
  }

  /** "FAR: the greatest SHELF of its KINDS": from 0 to 200. */
  private static void farthest() {
    String[] children = {"a", "b", "c", "d", "a b", "b a", "c d", "d a", "a b c"};
    int[] far = {0, 1, 199, 200, 1, 1, 200, 200, 199};
    for (int i = 0; i < children.length; i++) {
      WinterToys toys = barn(children[i] + "/0/1");
      toys.give();
      Check.due("29: steps of " + children[i], toys.walks(1), 2 * far[i]);
    }
  }

  /** "in order of FAR, the farthest first, of like ones the lesser CHILD first". */
  private static void farthestFirst() {
    WinterToys toys = barn("a/0/1", "c/0/1", "d/0/2", "b/0/1", "a d/0/1", "c/0/3", "/0/1", "a/0/1");
    toys.give();
    order(toys, 2, 4, 1, 5, 3, 0, 7);
    toys = barn(many(40, "d/0/1"));
    toys.give();
    int[] all = new int[40];
    for (int i = 0; i < 40; i++) {
      all[i] = i;
    }
    order(toys, all);
  }

  /** "b by b; a WALK's steps are twice its greatest FAR": just full, and one more. */
  private static void walkByWalk() {
    WinterToys toys = barn("d/0/1", "c/0/1", "b/0/1", "b/0/1", "a/0/1", "a/0/1");
    toys.give();
    int[] want = {0, 802, 402, 402, 400, 400, 400};
    for (int b = 1; b < want.length; b++) {
      Check.due("29: walks(" + b + ")", toys.walks(b), want[b]);
    }
    toys = barn("b/0/1", "b/0/1", "b/0/1", "b/0/1", "b/0/1");
    toys.give();
    int[] ones = {0, 10, 6, 4, 4, 2, 2};
    for (int b = 1; b < ones.length; b++) {
      Check.due("29: walks(" + b + ") of like ones", toys.walks(b), ones[b]);
    }
  }

  /** "with up to b BAGS (1 .. 40); NONE .. if b can't be". */
  private static void walksBounds() {
    WinterToys toys = barn(many(40, "d/0/1"));
    Check.due("29: ahead of any give()", toys.walks(1), Check.NONE);
    toys.give();
    Check.due("29: walks(1)", toys.walks(1), 16000);
    Check.due("29: walks(39)", toys.walks(39), 800);
    Check.due("29: walks(40)", toys.walks(40), 400);
    for (int b : new int[] {0, -1, 41, LEAST, MOST}) {
      Check.due("29: walks(" + b + ")", toys.walks(b), Check.NONE);
    }
    toys.as(0);
    toys.give();
    Check.due("29: walks(1) without BAGS", toys.walks(1), 0);
    Check.due("29: walks(0) without BAGS", toys.walks(0), Check.NONE);
    Check.due("30: bag(0) without BAGS", toys.bag(0), Check.NONE);
  }

  private static void queue(String what, WinterToys toys, int day, int w, int... want) {
    for (int i = 0; i < 3; i++) {
      Check.due("31: queue(" + day + ", " + w + ", " + i + "), " + what, toys.queue(day, w, i), want[i]);
    }
  }

  /** "houses (.. one without is one) that have BAGS of CHILDREN of that DAY take 2 minutes and 1 more for each". */
  private static void minutesOfHouses() {
    WinterToys toys = barn("b/1/5");
    toys.give();
    queue("one BAG", toys, 5, 1, 1, 0, 3);
    toys = barn("b/1/5", "b/1/5");
    toys.give();
    queue("two of a house", toys, 5, 1, 1, 0, 4);
    toys = barn("b/0/5", "b/0/5");
    toys.give();
    queue("two without house", toys, 5, 1, 2, 3, 6);
    toys = barn("b/1/5", "/1/5", "b/1/6", "b/2/4");
    toys.give();
    queue("none for an empty hand or another DAY", toys, 5, 1, 1, 0, 3);
    queue("nor on that DAY", toys, 6, 1, 1, 0, 3);
    toys = barn("/1/5");
    toys.give();
    queue("no BAG at all", toys, 5, 1, 0, 0, 0);
    toys = barn(many(40, "b/999/5"));
    toys.give();
    queue("forty of a house", toys, 5, 9, 1, 0, 42);
    toys = barn(many(40, "b/0/5"));
    toys.give();
    queue("forty without house", toys, 5, 1, 40, 3 * 780, 120);
    queue("forty at nine windows", toys, 5, 9, 40, (3 + 6 + 9) * 9 + 12 * 4, 15);
  }

  /** "those that take less come first": whatever their children's numbers. */
  private static void lessComesFirst() {
    WinterToys toys = barn("b/1/5", "b/1/5", "b/1/5", "b/2/5", "b/2/5", "b/0/5");
    toys.give();
    queue("5, 4, 3 minutes at one", toys, 5, 1, 3, 3 + 7, 12);
    queue("at two", toys, 5, 2, 3, 3, 8);
    queue("at three", toys, 5, 3, 3, 0, 5);
    queue("at nine", toys, 5, 9, 3, 0, 5);
  }

  /** "each goes to the window that is free first": as many windows as houses, and one less. */
  private static void freeFirst() {
    WinterToys toys = barn("b/0/5", "b/0/5", "b/3/5", "b/3/5", "b/4/5", "b/4/5", "b/4/5", "b/5/5", "b/5/5", "b/5/5",
        "b/5/5");
    toys.give();
    // 3, 3, 4, 5, 6 minutes
    queue("one window", toys, 5, 1, 5, 3 + 6 + 10 + 15, 21);
    queue("two", toys, 5, 2, 5, 3 + 3 + 7, 13);
    queue("three", toys, 5, 3, 5, 3 + 3, 9);
    queue("four", toys, 5, 4, 5, 3, 9);
    queue("five", toys, 5, 5, 5, 0, 6);
  }

  /** "THE QUEUE of a DAY at w windows (1 .. 9): 0 .. 2 .. NONE .. if a number can't be, or for others." */
  private static void queueBounds() {
    WinterToys toys = barn("b/1/1", "b/0/24");
    Check.due("31: ahead of any give()", toys.queue(1, 1, 0), Check.NONE);
    toys.give();
    queue("the first DAY", toys, 1, 1, 1, 0, 3);
    queue("the last DAY", toys, 24, 9, 1, 0, 3);
    queue("a DAY without", toys, 12, 5, 0, 0, 0);
    int[][] cannot = {{0, 1, 0}, {25, 1, 0}, {-1, 1, 0}, {LEAST, 1, 0}, {MOST, 1, 0}, {1, 0, 0}, {1, 10, 0}, {1, -1, 0},
      {1, LEAST, 0}, {1, MOST, 0}, {1, 1, -1}, {1, 1, 3}, {1, 1, LEAST}, {1, 1, MOST}, {0, 0, 3}};
    for (int[] n : cannot) {
      Check.due("31: queue(" + n[0] + ", " + n[1] + ", " + n[2] + ")", toys.queue(n[0], n[1], n[2]), Check.NONE);
    }
  }

  /** "the NAMES of its KINDS, in order, a , and a blank between, a . behind: how many bytes; NONE if it has none." */
  private static void labels() {
    WinterToys toys = barn("a/0/1", "d b/0/1", "d c a/0/1", "/0/1");
    Check.due("32: ahead of any give()", toys.label(0), Check.NONE);
    toys.give();
    String[] want = {"a.", "b, d.", "a, c, d."};
    for (int child = 0; child < 3; child++) {
      Check.due("32: label(" + child + ")", toys.label(child), want[child].length());
      Check.same("33: its bytes", Check.label(toys), want[child]);
    }
    for (int child : new int[] {3, 4, -1, 40, LEAST, MOST}) {
      Check.due("32: label(" + child + ")", toys.label(child), Check.NONE);
      Check.same("33: of the latest that was not refused", Check.label(toys), want[2]);
    }
  }

  /** The shortest label has two bytes; the longest has nine names of eight letters. */
  private static void longestLabel() {
    StringBuilder text = new StringBuilder("gifts 0 for age=2;even 0;kind a worth 9 price 0 at 1;");
    StringBuilder want = new StringBuilder();
    for (char c = 'b'; c < 'k'; c++) {
      String name = ("" + c).repeat(8);
      text.append("kind ").append(name).append(" worth 1 price 1 at 1;");
      want.append(want.length() == 0 ? "" : ", ").append(name);
    }
    WinterToys toys = Check.barn(text + "never a for age=2;never not a for age=1;");
    toys.report(0, 1, 0, 4, 1);
    toys.report(0, 2, 0, 4, 1);
    toys.gifts(0, 1, 1);
    toys.give();
    Check.due("26: spend", toys.spend(9), 1);
    Check.due("32: the longest", toys.label(1), 89);
    Check.same("33: its bytes", Check.label(toys), want + ".");
    Check.due("33: at(88)", toys.at(88), '.');
    Check.due("33: at(89)", toys.at(89), Check.NONE);
    Check.due("32: the shortest", toys.label(0), 2);
    Check.due("33: at(1)", toys.at(1), '.');
    Check.due("33: at(2)", toys.at(2), Check.NONE);
  }

  /** "Byte k of the latest label() that was not refused; NONE if there is none such." */
  private static void atBounds() {
    WinterToys toys = barn("a b/0/1");
    Check.due("33: ahead of any label()", toys.at(0), Check.NONE);
    toys.label(0);
    Check.due("33: behind a refused one", toys.at(0), Check.NONE);
    toys.give();
    Check.due("33: give() writes none", toys.at(0), Check.NONE);
    Check.due("32: label(0)", toys.label(0), 5);
    int[] want = {'a', ',', ' ', 'b', '.'};
    for (int k = 0; k < 5; k++) {
      Check.due("33: at(" + k + ")", toys.at(k), want[k]);
    }
    for (int k : new int[] {-1, 5, 6, 100, 1000, LEAST, MOST}) {
      Check.due("33: at(" + k + ")", toys.at(k), Check.NONE);
    }
    toys.as(0);
    toys.give();
    Check.due("32: refused", toys.label(0), Check.NONE);
    Check.due("33: still the latest", toys.at(4), '.');
  }

  public static void main(String[] args) {
    somethingOrNothing();
    farthest();
    farthestFirst();
    walkByWalk();
    walksBounds();
    minutesOfHouses();
    lessComesFirst();
    freeFirst();
    queueBounds();
    labels();
    longestLabel();
    atBounds();
    Check.finish("BoundsBagsTest");
  }
}
