import java.util.Random;

/** Few gifts of each kind, much alike or not for some of the children: givings, and coins behind them, with many ties. */
public final class ScarceTest {
  private static final int MOST_OTHERS = 24;
  private static final int MOST_TEXT = 960;

  /** Runs in which rows of the giving ahead would do harm, if they were looked at. */
  private static final int[] BEHIND_ANOTHER = {107618, 306489, 403275, 605309, 613543};

  private final Random dice;
  private final Pair pair;
  private final int kinds;
  private final int days;
  private final StringBuilder text = new StringBuilder();

  private ScarceTest(int seed) {
    dice = new Random(seed);
    pair = new Pair("scarce " + seed);
    kinds = 2 + dice.nextInt(8);
    days = 1 + dice.nextInt(dice.nextInt(2) == 0 ? 3 : 6);
  }

  private String which(int percent) {
    StringBuilder which = new StringBuilder();
    for (int k = 0; k < kinds; k++) {
      if (dice.nextInt(100) < percent) {
        which.append(which.length() == 0 ? "" : " or ").append((char) ('a' + k));
      }
    }
    return which.length() == 0 ? "a" : which.toString();
  }

  /** One child, or those on one side of a number. */
  private String test(int children) {
    String test = "age=" + dice.nextInt(children);
    switch (dice.nextInt(5)) {
      case 0: return "age<" + dice.nextInt(children);
      case 1: return "school>" + dice.nextInt(6);
      case 2: return "school=" + dice.nextInt(6);
      default: return test;
    }
  }

  private void rules(int children) {
    for (int k = 0; k < kinds; k++) {
      text.append("kind ").append((char) ('a' + k)).append(" worth ").append(1 + dice.nextInt(4))
          .append(" price ").append(dice.nextInt(4)).append(" at 1;");
    }
    String[] firsts = {"likes 9 of any for all;", "likes 0-9 of any for all;", "gifts 2 for all;",
        "gifts 3 for school=1;gifts 0 for school=2;", "even " + dice.nextInt(7) + ";"};
    for (String first : firsts) {
      if (dice.nextInt(3) == 0) {
        text.append(first);
      }
    }
    int percent = 10 + dice.nextInt(70);
    int nevers = dice.nextInt(100);
    int unlike = 1 + dice.nextInt(3);
    for (int left = dice.nextInt(MOST_OTHERS - 5); left > 0 && text.length() < MOST_TEXT - 50; left--) {
      if (dice.nextInt(100) < nevers) {
        text.append("never ").append(which(percent));
      } else {
        text.append("likes ").append(dice.nextInt(3) == 0 ? "0-" : "").append(1 + dice.nextInt(unlike))
            .append(" of ").append(which(percent));
      }
      text.append(" for ").append(test(children)).append(";");
    }
  }

  private void compare() {
    pair.give();
    pair.blind();
    pair.same("given(0)", pair.toys.given(0), pair.model.given(0));
    pair.same("given(3)", pair.toys.given(3), pair.model.given(3));
    compareCoins();
    pair.spend(dice.nextInt(30));
    compareCoins();
  }

  private void compareCoins() {
    for (int i = 0; i < pair.model.result.children.size(); i++) {
      pair.same("gets(" + i + ")", pair.toys.gets(i), pair.model.gets(i));
      pair.same("price(" + i + ")", pair.toys.price(i), pair.model.price(i));
    }
    pair.same("right()", pair.toys.right(), pair.model.right());
    pair.same("spent()", pair.toys.spent(), pair.model.spent());
  }

  /** Some acts, or the reports of all children from a day on. */
  private void annulSome(int reports) {
    int acts = pair.model.acts.size();
    int last = 1 + dice.nextInt(days);
    if (dice.nextInt(2) == 0) {
      for (int i = dice.nextInt(8); i > 0; i--) {
        pair.annul(1 + dice.nextInt(acts));
      }
      return;
    }
    for (int act = 1; act <= reports; act++) {
      if (pair.model.acts.get(act - 1).detail()[4] >= last) {
        pair.annul(act);
      }
    }
  }

  private void run() {
    int children = 2 + dice.nextInt(11);
    rules(children);
    pair.text(text.toString());
    pair.rules();
    int rounds = 1 + dice.nextInt(2);
    for (int i = 0; i < children * rounds; i++) {
      pair.report(0, i % children, dice.nextInt(6), dice.nextInt(4), 1 + dice.nextInt(days));
    }
    int gifts = children * rounds * (1 + dice.nextInt(4)) / 2;
    int many = 1 + dice.nextInt(3);
    for (int n = 0; gifts > 0; gifts -= n) {
      n = 1 + dice.nextInt(many);
      pair.gifts(dice.nextInt(kinds), 1 + dice.nextInt(days), n);
    }
    compare();
    annulSome(children * rounds);
    compare();
  }

  public static void main(String[] args) {
    int from = args.length > 0 ? Integer.parseInt(args[0]) : 1;
    int to = args.length > 1 ? Integer.parseInt(args[1]) : 2000;
    for (int seed = from; seed <= to; seed++) {
      new ScarceTest(seed).run();
    }
    for (int seed : BEHIND_ANOTHER) {
      new ScarceTest(seed).run();
    }
    System.out.println("ScarceTest: " + Pair.compared + " answers compared with the model, " + Pair.wrong + " differ");
    if (Pair.wrong > 0) {
      System.exit(1);
    }
  }
}
