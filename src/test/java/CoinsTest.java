/** Promises 25 to 28: price, spend, spent, right. */
public final class CoinsTest {
  /** c is not sold; d is what the first child of a house has. */
  private static final String KINDS = "kind a worth 10 price 3 at 0;kind b worth 10 price 3 at 0;"
      + "kind c worth 30 price 0 at 0;kind d worth 30 price 5 at 0;kind e worth 20 price 6 at 0;"
      + "never a or b or e for age=1;";

  /** A house of a child that has d alone, and one that has nothing yet. */
  private static WinterToys house(String rules) {
    WinterToys toys = Check.barn(KINDS + rules);
    toys.report(0, 1, 0, 7, 1);
    toys.report(0, 2, 0, 7, 1);
    toys.gifts(3, 1, 1);
    Check.due("19: give()", toys.give(), 1);
    Check.due("21: gets(0)", toys.gets(0), 8);
    Check.due("25: it is RIGHT", toys.price(0), 0);
    return toys;
  }

  private static void price(String rules, int price, int bought) {
    WinterToys toys = house(rules);
    Check.due("25: price, " + rules, toys.price(1), price);
    Check.due("28: right(), " + rules, toys.right(), price == 0 ? 2 : 1);
    Check.due("26: spend(100000), " + rules, toys.spend(100000), price > 0 ? 1 : 0);
    Check.due("21: gets(1), " + rules, toys.gets(1), bought);
    Check.due("25: price behind it, " + rules, toys.price(1), price < 0 ? price : 0);
    Check.due("27: spent(), " + rules, toys.spent(), Math.max(0, price));
    Check.due("28: right() behind it, " + rules, toys.right(), price < 0 ? 1 : 2);
  }

  private static void sets() {
    price("even 0;", 5, 8);
    price("even 9;", 5, 8);
    price("even 10;", 5, 8);
    price("even 20;", 3, 1);
    price("", 3, 1);
    price("even 0;never d for age=2;", 9, 17);
    price("even 10;never d for age=2;", 6, 16);
    price("even 20;never a for age=2;", 3, 2);
    price("even 0;gifts 2 for age=2;", 9, 17);
    price("even 0;never a or d for age=2;", 9, 18);
    price("even 0;gifts 3 for age=2;", -1, 0);
    price("even 0;never d or e for age=2;", -1, 0);
    price("even 10;never d or e for age=2;", 6, 3);
    price("even 30;gifts 0 for age=2;", 0, 0);
    price("even 29;gifts 0 for age=2;", 3, 1);
    price("never any for age=2;", -1, 0);
  }

  private static void withoutHouse() {
    WinterToys toys = Check.barn(KINDS + "gifts 2 for all;even 0;");
    toys.report(0, 2, 0, 0, 1);
    toys.report(0, 2, 0, 0, 1);
    toys.gifts(2, 1, 1);
    toys.give();
    Check.due("21: gets(0)", toys.gets(0), 4);
    Check.due("25: it would have more than the greatest", toys.price(0), Check.NONE);
    Check.due("25: any, if the greatest is 0", toys.price(1), 6);
    Check.due("26: spend", toys.spend(6), 1);
    Check.due("21: gets(1)", toys.gets(1), 3);
    Check.due("28: right()", toys.right(), 1);
  }

  private static void called() {
    WinterToys toys = Check.barn(KINDS);
    toys.report(0, 2, 0, 0, 5);
    toys.call(0, 5);
    toys.call(1, 6);
    toys.give();
    Check.due("25: price", toys.price(0), 3);
    toys.spend(3);
    Check.due("26: what is called back is not bought", toys.gets(0), 2);
  }

  /** All prices are those ahead of spending; what is right is as it stands. */
  private static void aheadOfSpending() {
    WinterToys toys = Check.barn(KINDS + "even 0;gifts 1 for all;gifts 3 for age=3;");
    toys.report(0, 2, 0, 7, 1);
    toys.report(0, 3, 0, 7, 1);
    toys.give();
    Check.due("25: price(0)", toys.price(0), 3);
    Check.due("25: price(1)", toys.price(1), 11);
    Check.due("26: spend(14)", toys.spend(14), 2);
    Check.due("21: gets(0)", toys.gets(0), 1);
    Check.due("21: gets(1)", toys.gets(1), 11);
    Check.due("27: spent()", toys.spent(), 14);
    Check.due("28: the first one is not RIGHT any more", toys.right(), 1);
    Check.due("25: from 10 to 50 by b and d", toys.price(0), 8);
  }

  private static void order() {
    WinterToys toys = Check.barn(KINDS + "even 0;never a or b for age=4;never a for age=5;gifts 2 for age=6;");
    int[] ages = {6, 4, 2, 5, 2};
    for (int age : ages) {
      toys.report(0, age, 0, 0, 1);
    }
    toys.give();
    int[] prices = {6, 5, 3, 3, 3};
    for (int c = 0; c < 5; c++) {
      Check.due("25: price(" + c + ")", toys.price(c), prices[c]);
    }
    int[][] spending = {{0, 0, 0}, {2, 0, 0}, {3, 1, 3}, {5, 1, 3}, {6, 2, 6}, {9, 3, 9}, {13, 3, 9}, {14, 4, 14},
      {19, 4, 14}, {20, 5, 20}, {100000, 5, 20}};
    for (int[] s : spending) {
      toys.give();
      Check.due("27: spent() ahead of it", toys.spent(), Check.NONE);
      Check.due("26: spend(" + s[0] + ")", toys.spend(s[0]), s[1]);
      Check.due("27: spent() of " + s[0], toys.spent(), s[2]);
      Check.due("28: right() of " + s[0], toys.right(), s[1]);
      Check.due("26: once", toys.spend(1), Check.NONE);
      Check.due("27: still", toys.spent(), s[2]);
    }
    toys.give();
    toys.spend(6);
    int[] bags = {0, 0, 1, 2, 0};
    for (int c = 0; c < 5; c++) {
      Check.due("21: gets(" + c + ")", toys.gets(c), bags[c]);
    }
    Check.due("20: CHILDREN with all, bought ones not looked at", toys.given(1), 0);
    Check.due("24: lacks(0, 17), likewise", toys.lacks(0, 17), 6);
  }

  private static void refused() {
    WinterToys toys = Check.barn(KINDS);
    toys.report(0, 2, 0, 0, 1);
    Check.due("25: ahead of any give()", toys.price(0), Check.NONE);
    Check.due("26: ahead of any give()", toys.spend(1), Check.NONE);
    Check.due("27: ahead of any give()", toys.spent(), Check.NONE);
    Check.due("28: ahead of any give()", toys.right(), Check.NONE);
    toys.give();
    for (int coins : new int[] {-1, 100001, Integer.MIN_VALUE, Integer.MAX_VALUE}) {
      Check.due("26: spend(" + coins + ")", toys.spend(coins), Check.NONE);
      Check.due("27: it was not done", toys.spent(), Check.NONE);
    }
    for (int child : new int[] {-1, 1, Integer.MIN_VALUE, Integer.MAX_VALUE}) {
      Check.due("25: price(" + child + ")", toys.price(child), Check.NONE);
    }
    Check.due("26: spend(100000)", toys.spend(100000), 1);
  }

  private static void fewestKinds() {
    WinterToys toys = Check.barn("kind a worth 10 price 2 at 0;kind b worth 10 price 2 at 0;"
        + "kind c worth 20 price 4 at 0;kind d worth 20 price 4 at 0;kind e worth 20 price 0 at 0;even 0;"
        + "never not e for age=1;");
    toys.report(0, 1, 0, 9, 1);
    toys.report(0, 2, 0, 9, 2);
    toys.gifts(4, 1, 1);
    Check.due("19: give()", toys.give(), 1);
    Check.due("25: price(1)", toys.price(1), 4);
    toys.spend(4);
    Check.due("26: the fewest KINDS, then the first one", toys.gets(1), 4);
  }

  public static void main(String[] args) {
    sets();
    withoutHouse();
    called();
    aheadOfSpending();
    order();
    refused();
    fewestKinds();
    Check.finish("CoinsTest");
  }
}
