/** The bounds that the document names for coins (Terms, III; promises 25 to 28), a method for each sentence. */
public final class BoundsCoinsTest {
  private static final int LEAST = Integer.MIN_VALUE;
  private static final int MOST = Integer.MAX_VALUE;

  /** Child 0 (age 1) gets kind a alone, child 1 (age 2) nothing; both are of house 7. */
  private static WinterToys house(String rules) {
    WinterToys toys = Check.barn(rules + "never not a for age=1;never a for age=2;");
    toys.report(1, 1, 0, 7, 1);
    toys.report(2, 2, 0, 7, 1);
    toys.gifts(0, 1, 1);
    Check.due("19: give()", toys.give(), 1);
    Check.due("21: gets(0)", toys.gets(0), 1);
    Check.due("25: the first one is RIGHT", toys.price(0), 0);
    return toys;
  }

  private static void price(String rules, int price, int bought) {
    WinterToys toys = house(rules);
    Check.due("25: price by " + rules, toys.price(1), price);
    Check.due("26: spend by " + rules, toys.spend(100000), price > 0 ? 1 : 0);
    Check.due("21: bought by " + rules, toys.gets(1), bought);
    Check.due("27: spent by " + rules, toys.spent(), Math.max(0, price));
    Check.due("28: right by " + rules, toys.right(), price == Check.NONE ? 1 : 2);
  }

  /** "it has all that is DUE to it": one gift less is not enough, nothing due needs nothing. */
  private static void allThatIsDue() {
    String kinds = "kind a worth 10 price 0 at 0;kind b worth 1 price 3 at 0;kind c worth 1 price 4 at 0;"
        + "kind d worth 1 price 5 at 0;";
    price(kinds + "gifts 0 for age=2;", 0, 0);
    price(kinds + "gifts 1 for age=2;", 3, 2);
    price(kinds + "gifts 2 for age=2;", 7, 6);
    price(kinds + "gifts 3 for age=2;", 12, 14);
    price(kinds + "gifts 3 for age=2;never d for age=2;", Check.NONE, 0);
  }

  /** "the sum of its WORTH is not below the greatest of its house .. less EVEN": just that, and one less. */
  private static void notBelow() {
    String kinds = "kind a worth 10 price 0 at 0;kind b worth 1 price 3 at 0;gifts 0 for age=2;even ";
    price(kinds + "10;", 0, 0);
    price(kinds + "9;", 3, 2);
    price(kinds + "8;", Check.NONE, 0);
    price(kinds + "1000;", 0, 0);
    String greatest = "kind a worth 500 price 0 at 0;kind b worth 499 price 3 at 0;gifts 0 for age=2;even ";
    price(greatest + "500;", 0, 0);
    price(greatest + "499;", 3, 2);
    price(greatest + "1;", 3, 2);
    price(greatest + "0;", Check.NONE, 0);
  }

  /** "less EVEN", as great as it can be: one child has 1000, the other one nothing, and nothing is due to it. */
  private static void widestEven() {
    for (int even : new int[] {999, 1000}) {
      WinterToys toys = Check.barn("kind a worth 500 price 0 at 0;kind b worth 500 price 0 at 0;"
          + "gifts 2 for age=1;gifts 0 for age=2;even " + even + ";");
      toys.report(1, 1, 0, 7, 1);
      toys.report(2, 2, 0, 7, 1);
      toys.gifts(0, 1, 1);
      toys.gifts(1, 1, 1);
      toys.give();
      Check.due("28: right() by EVEN " + even, toys.right(), even == 1000 ? 2 : 1);
    }
  }

  /** "up to that greatest": just as much may be had, one more not. */
  private static void upToGreatest() {
    String kinds = "kind a worth 10 price 0 at 0;kind b worth # price 3 at 0;kind c worth 1 price 9 at 0;even 9;";
    price(kinds.replace("#", "9"), 3, 2);
    price(kinds.replace("#", "10"), 3, 2);
    price(kinds.replace("#", "11"), 9, 4);
    String both = "kind a worth 10 price 0 at 0;kind b worth 5 price 3 at 0;kind c worth # price 9 at 0;"
        + "gifts 2 for age=2;";
    price(both.replace("#", "5"), 12, 6);
    price(both.replace("#", "6"), Check.NONE, 0);
  }

  /** "(any, if that greatest is 0)": nobody of the house has anything. */
  private static void anyIfZero() {
    WinterToys toys = Check.barn("kind a worth 500 price 1000 at 0;kind b worth 500 price 1000 at 0;"
        + "kind c worth 500 price 1000 at 0;gifts 3 for all;even 0;");
    toys.report(1, 1, 0, 7, 1);
    toys.report(2, 2, 0, 7, 1);
    toys.report(3, 3, 0, 0, 1);
    toys.give();
    for (int child = 0; child < 3; child++) {
      Check.due("25: price(" + child + ")", toys.price(child), 3000);
    }
    Check.due("26: spend", toys.spend(9000), 3);
    Check.due("28: right()", toys.right(), 3);
    Check.due("21: gets", toys.gets(2), 7);
  }

  /** "itself alone without one": another house, or none, has no part in the greatest. */
  private static void itselfAlone() {
    for (int house = 0; house <= 8; house += 4) {
      WinterToys toys = Check.barn("kind a worth 10 price 0 at 0;kind b worth 1 price 3 at 0;gifts 0 for age=2;even 0;"
          + "never a for age=2;");
      toys.report(1, 1, 0, house, 1);
      toys.report(2, 2, 0, house == 8 ? 8 : 0, 1);
      toys.gifts(0, 1, 1);
      toys.give();
      Check.due("25: house " + house, toys.price(1), house == 8 ? Check.NONE : 0);
      Check.due("28: house " + house, toys.right(), house == 8 ? 1 : 2);
    }
  }

  /** "PRICE (0 .. 1000; 0: not sold)": 0 is never bought, 1 is, 1000 too. */
  private static void notSold() {
    String kinds = "kind a worth 10 price 0 at 0;kind b worth 1 price # at 0;";
    price(kinds.replace("#", "0"), Check.NONE, 0);
    price(kinds.replace("#", "1"), 1, 2);
    price(kinds.replace("#", "1000"), 1000, 2);
  }

  /** "that it may get (as above) and has not": by never, by calls up to its day, and no kind twice. */
  private static void mayGetAndHasNot() {
    String kinds = "kind a worth 10 price 0 at 0;kind b worth 1 price 1 at 0;kind c worth 1 price 2 at 0;";
    price(kinds + "never b for age=2;", 2, 4);
    price(kinds + "never b or c for age=2;", Check.NONE, 0);
    for (int day = 11; day <= 13; day++) {
      WinterToys toys = Check.barn(kinds);
      toys.report(1, 1, 0, 0, 12);
      toys.call(1, day);
      toys.give();
      Check.due("25: a CALL from DAY " + day, toys.price(0), day <= 12 ? 2 : 1);
    }
    WinterToys toys = Check.barn(kinds + "gifts 2 for age=2;never not a for age=1;");
    toys.report(1, 1, 0, 7, 1);
    toys.report(2, 2, 0, 7, 1);
    toys.gifts(0, 1, 1);
    toys.gifts(1, 1, 1);
    toys.give();
    Check.due("21: it has b", toys.gets(1), 2);
    Check.due("25: it buys c", toys.price(1), 2);
  }

  /** "the least sum of PRICES; of several the fewest KINDS; of several the one that has the first KIND ..". */
  private static void leastFewestFirst() {
    String a = "kind a worth 10 price 0 at 0;";
    price(a + "kind b worth 9 price 4 at 0;kind c worth 9 price 3 at 0;even 1;", 3, 4);
    price(a + "kind b worth 5 price 1 at 0;kind c worth 5 price 2 at 0;kind d worth 10 price 4 at 0;even 0;", 3, 6);
    price(a + "kind b worth 5 price 1 at 0;kind c worth 5 price 2 at 0;kind d worth 10 price 3 at 0;even 0;", 3, 8);
    price(a + "kind b worth 5 price 1 at 0;kind c worth 5 price 3 at 0;kind d worth 10 price 3 at 0;even 0;", 3, 8);
    price(a + "kind b worth 9 price 3 at 0;kind c worth 9 price 3 at 0;even 1;", 3, 2);
    price(a + "kind b worth 3 price 3 at 0;kind c worth 5 price 1 at 0;kind d worth 5 price 3 at 0;"
        + "kind e worth 7 price 1 at 0;even 0;", 4, 18);
    price(a + "kind b worth 5 price 2 at 0;kind c worth 5 price 2 at 0;kind d worth 5 price 2 at 0;even 0;", 4, 6);
  }

  /** Children of these ages, behind give(): each costs as much as its age; 9 can't be made right, 0 is. */
  private static WinterToys row(String ages) {
    WinterToys toys = Check.barn("kind a worth 1 price 5 at 0;kind b worth 1 price 7 at 0;kind c worth 1 price 8 at 0;"
        + "never not a for age=5;never not b for age=7;never not c for age=8;never any for age=9;gifts 0 for age=0;");
    for (char age : ages.toCharArray()) {
      toys.report(0, age - '0', 0, 0, 1);
    }
    toys.give();
    return toys;
  }

  private static void spends(String ages, int coins, int made, int spent, String has) {
    WinterToys toys = row(ages);
    String what = " of " + ages + " by " + coins;
    int right = toys.right();
    Check.due("26: spend" + what, toys.spend(coins), made);
    Check.due("27: spent" + what, toys.spent(), spent);
    for (int i = 0; i < has.length(); i++) {
      Check.due("21: gets(" + i + ")" + what, toys.gets(i) != 0, has.charAt(i) == '1');
    }
    Check.due("28: right" + what, toys.right(), right + made);
  }

  /** "the least price first, of like ones the lesser number, as long as COINS are enough": just so, and one less. */
  private static void enoughForTheNext() {
    spends("875", 4, 0, 0, "000");
    spends("875", 5, 1, 5, "001");
    spends("875", 11, 1, 5, "001");
    spends("875", 12, 2, 12, "011");
    spends("875", 19, 2, 12, "011");
    spends("875", 20, 3, 20, "111");
    spends("875", 21, 3, 20, "111");
    spends("55", 5, 1, 5, "10");
    spends("55", 9, 1, 5, "10");
    spends("55", 10, 2, 10, "11");
    spends("7575", 10, 2, 10, "0101");
    spends("7575", 17, 3, 17, "1101");
    spends("9075", 100000, 2, 12, "0011");
    spends("90", 100000, 0, 0, "00");
    spends("5", 0, 0, 0, "0");
    spends("", 100000, 0, 0, "");
  }

  /** "So many COINS (0 .. 100000)": 33 of 3000 and one of 1000 are just the greatest sum. */
  private static void mostCoins() {
    for (int more = 0; more < 2; more++) {
      WinterToys toys = Check.barn("kind a worth 1 price 1000 at 0;kind b worth 1 price 1000 at 0;"
          + "kind c worth 1 price 1000 at 0;gifts 3 for all;gifts 1 for age=1;");
      for (int i = 0; i < 34 + more; i++) {
        toys.report(0, i == 20 ? 1 : 2, 0, 0, 1);
      }
      toys.give();
      Check.due("26: one too many", toys.spend(100001), Check.NONE);
      Check.due("26: spend(100000)", toys.spend(100000), 34);
      Check.due("27: spent()", toys.spent(), 100000);
      Check.due("28: right()", toys.right(), 34);
      Check.due("25: the last one", toys.price(33 + more), more * 3000);
    }
  }

  /** "NONE if a number can't be, ahead of any give(), or it was done": a refused one is not done. */
  private static void spendRefused() {
    WinterToys toys = row("5");
    for (int coins : new int[] {-1, 100001, LEAST, MOST}) {
      Check.due("26: spend(" + coins + ")", toys.spend(coins), Check.NONE);
      Check.due("27: it was not done", toys.spent(), Check.NONE);
      Check.due("21: nothing was bought", toys.gets(0), 0);
    }
    Check.due("26: spend(0)", toys.spend(0), 0);
    Check.due("27: done", toys.spent(), 0);
    Check.due("26: again", toys.spend(5), Check.NONE);
    Check.due("26: again, with a number that can't be", toys.spend(-1), Check.NONE);
    Check.due("27: as it was", toys.spent(), 0);
    Check.due("21: nothing was bought", toys.gets(0), 0);
    Check.due("19: give()", toys.give(), 0);
    Check.due("27: ahead of it", toys.spent(), Check.NONE);
    Check.due("26: once behind each give()", toys.spend(5), 1);
    Check.due("27: spent()", toys.spent(), 5);
    Check.due("19: give() takes back what was bought", toys.give(), 0);
    Check.due("21: gets(0)", toys.gets(0), 0);
    Check.due("26: and again", toys.spend(5), 1);
    WinterToys none = new WinterToys();
    Check.due("26: ahead of any give()", none.spend(0), Check.NONE);
  }

  /** "0 if it is; NONE if it can't be, there was none such, or ahead of any give()." */
  private static void priceBounds() {
    WinterToys toys = Check.barn("kind a worth 1 price 5 at 0;never any for age=9;gifts 0 for age=0;");
    toys.report(0, 0, 0, 0, 1);
    toys.report(0, 5, 0, 0, 1);
    toys.report(0, 9, 0, 0, 1);
    Check.due("25: ahead of any give()", toys.price(0), Check.NONE);
    toys.give();
    toys.report(0, 5, 0, 0, 1);
    int[] want = {Check.NONE, 0, 5, Check.NONE, Check.NONE};
    for (int child = -1; child <= 3; child++) {
      Check.due("25: price(" + child + ")", toys.price(child), want[child + 1]);
    }
    Check.due("25: price(least)", toys.price(LEAST), Check.NONE);
    Check.due("25: price(most)", toys.price(MOST), Check.NONE);
    Check.due("28: right()", toys.right(), 1);
    Check.due("26: spend", toys.spend(100000), 1);
    Check.due("25: bought ones looked at", toys.price(1), 0);
    Check.due("25: it can't be still", toys.price(2), Check.NONE);
    Check.due("28: right() now", toys.right(), 2);
  }

  /** "(prices being those ahead of it)": what is bought for one does not change what another one is bought. */
  private static void pricesAheadOfIt() {
    WinterToys toys = Check.barn("kind a worth 10 price 2 at 0;kind b worth 50 price 3 at 0;even 10;"
        + "never b for age=1;never a for age=2;");
    toys.report(0, 1, 0, 7, 1);
    toys.report(0, 2, 0, 7, 1);
    toys.give();
    Check.due("25: price(0)", toys.price(0), 2);
    Check.due("25: price(1)", toys.price(1), 3);
    Check.due("26: both are made RIGHT", toys.spend(5), 2);
    Check.due("27: spent()", toys.spent(), 5);
    Check.due("28: one is RIGHT now", toys.right(), 1);
    Check.due("25: the first one can't be any more", toys.price(0), Check.NONE);
    Check.due("25: the second one is", toys.price(1), 0);
  }

  /** All ten kinds may be for sale: the dearest and the greatest set. */
  private static void tenKinds() {
    StringBuilder text = new StringBuilder("even 0;gifts 0 for age=2;kind a worth 459 price 0 at 0;");
    for (int i = 1; i < 10; i++) {
      text.append("kind ").append((char) ('a' + i)).append(" worth 51 price 1000 at 0;");
    }
    price(text.toString(), 9000, 1022);
    WinterToys toys = house(text.toString());
    Check.due("26: one less", toys.spend(8999), 0);
    toys.give();
    Check.due("26: just enough", toys.spend(9000), 1);
  }

  public static void main(String[] args) {
    allThatIsDue();
    notBelow();
    widestEven();
    upToGreatest();
    anyIfZero();
    itselfAlone();
    notSold();
    mayGetAndHasNot();
    leastFewestFirst();
    enoughForTheNext();
    mostCoins();
    spendRefused();
    priceBounds();
    pricesAheadOfIt();
    tenKinds();
    Check.finish("BoundsCoinsTest");
  }
}
