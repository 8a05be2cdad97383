import java.nio.charset.StandardCharsets;
import java.util.ArrayList;
import java.util.Arrays;
import java.util.List;
import java.util.Random;
import java.util.regex.Matcher;
import java.util.regex.Pattern;

/** Runs of calls by chance (the same ones each time), compared with the model. */
public final class RandomTest {
  private static final String[] NAMES = {"ball", "bike", "doll", "drum", "book", "kite", "game", "a", "b", "c",
    "abcdefgh", "zzzzzzzz", "agesx", "kin", "kindx", "wishe", "x", "y", "z", "mm"};
  private static final String[] MARKS = {"small", "loud", "red", "round", "late", "quiet", "m", "n", "soft"};
  private static final String[] FACTS = {"age", "ages", "school", "house", "wishes"};

  private final Random dice;
  private final StringBuilder text = new StringBuilder();
  private final int kinds;
  private int told;
  private final List<String> marksTold = new ArrayList<>();

  private RandomTest(Random dice, int kinds) {
    this.dice = dice;
    this.kinds = kinds;
  }

  private String pick(String[] from) {
    return from[dice.nextInt(from.length)];
  }

  private boolean chance(int percent) {
    return dice.nextInt(100) < percent;
  }

  private void word(String word) {
    if (text.length() > 0 && Character.isLetterOrDigit(text.charAt(text.length() - 1))
        && Character.isLetterOrDigit(word.charAt(0))) {
      text.append(chance(10) ? "\n" : " ");
    } else if (chance(10)) {
      text.append(chance(50) ? " " : " \n ");
    }
    text.append(word);
  }

  private String rulesText(int others) {
    for (int i = 0; i < kinds; i++) {
      kind();
    }
    for (int i = 0; i < others; i++) {
      int before = text.length();
      other();
      if (text.length() > 980) {
        text.setLength(before);
      }
    }
    return text.toString();
  }

  private void kind() {
    word("kind");
    word(NAMES[told]);
    word("worth");
    word("" + (1 + dice.nextInt(chance(50) ? 10 : 500)));
    word("price");
    word("" + dice.nextInt(chance(50) ? 4 : 1001));
    word("at");
    word("" + dice.nextInt(chance(50) ? 4 : 201));
    told++;
    if (chance(60)) {
      word("is");
      mark(MARKS[dice.nextInt(4)]);
      if (chance(40)) {
        word(",");
        mark(MARKS[4 + dice.nextInt(4)]);
      }
    }
    word(";");
  }

  private void mark(String mark) {
    word(mark);
    marksTold.add(mark);
  }

  private void other() {
    int what = dice.nextInt(100);
    if (what < 25) {
      word("never");
      which(0);
      word("for");
      test(0);
    } else if (what < 65) {
      word("likes");
      sum(0);
      word("of");
      which(0);
      word("for");
      test(0);
    } else if (what < 93) {
      word("gifts");
      if (chance(70)) {
        word("" + (chance(10) ? 0 : 1 + dice.nextInt(3)));
      } else {
        sum(0);
      }
      word("for");
      test(0);
    } else {
      word("even");
      word("" + dice.nextInt(chance(60) ? 20 : 1001));
    }
    word(";");
  }

  private void which(int deep) {
    atom(deep);
    while (chance(25)) {
      word(chance(50) ? "or" : "and");
      atom(deep);
    }
  }

  private void atom(int deep) {
    int what = dice.nextInt(100);
    if (what < 15) {
      word("not");
      atom(deep);
    } else if (what < 25 && deep < 3) {
      word("[");
      which(deep + 1);
      word("]");
    } else if (what < 35 || told == 0) {
      word("any");
    } else if (what < 75) {
      word(NAMES[dice.nextInt(told)]);
    } else {
      word(marksTold.isEmpty() || chance(1) ? MARKS[dice.nextInt(2)] : marksTold.get(dice.nextInt(marksTold.size())));
    }
  }

  private void test(int deep) {
    fact(deep);
    while (chance(20)) {
      word(chance(50) ? "or" : "and");
      fact(deep);
    }
  }

  private void fact(int deep) {
    int what = dice.nextInt(100);
    if (what < 10) {
      word("not");
      fact(deep);
    } else if (what < 20 && deep < 3) {
      word("[");
      test(deep + 1);
      word("]");
    } else if (what < 50) {
      word("all");
    } else if (what < 57) {
      word("wish");
      word(pick(NAMES));
    } else {
      sum(deep);
      word(new String[] {"<", ">", "="}[dice.nextInt(3)]);
      sum(deep);
    }
  }

  private void sum(int deep) {
    part(deep);
    while (chance(30)) {
      word(new String[] {"+", "-", "*"}[dice.nextInt(3)]);
      part(deep);
    }
  }

  private void part(int deep) {
    int what = dice.nextInt(100);
    if (what < 10 && deep < 3) {
      word("(");
      sum(deep + 1);
      word(")");
    } else if (what < 50) {
      word(pick(FACTS));
    } else if (what < 95) {
      word("" + dice.nextInt(10));
    } else {
      word("" + dice.nextInt(100000));
    }
  }

  /** One to three bytes of a text are changed, so that most have faults. */
  private byte[] spoil(byte[] text) {
    byte[] bytes = text;
    for (int n = 1 + dice.nextInt(3); n > 0 && bytes.length > 0; n--) {
      int i = dice.nextInt(bytes.length);
      String signs = ";,[]()<>=+-* \naz09A";
      byte b = chance(95) ? (byte) signs.charAt(dice.nextInt(signs.length())) : (byte) dice.nextInt(256);
      if (chance(40)) {
        bytes[i] = b;
      } else if (chance(50)) {
        System.arraycopy(bytes, i + 1, bytes, i, bytes.length - i - 1);
        bytes = Arrays.copyOf(bytes, bytes.length - 1);
      } else if (bytes.length < 1000) {
        byte[] more = Arrays.copyOf(bytes, bytes.length + 1);
        System.arraycopy(bytes, i, more, i + 1, bytes.length - i);
        more[i] = b;
        bytes = more;
      }
    }
    return bytes;
  }

  /** One to three words, numbers or signs of a text are changed for others of it, put twice, or left out. */
  private byte[] jumble(byte[] text) {
    List<String> tokens = new ArrayList<>();
    Matcher m = Pattern.compile("[a-z]+|[0-9]+|[^a-z0-9]").matcher(new String(text, StandardCharsets.ISO_8859_1));
    while (m.find()) {
      tokens.add(m.group());
    }
    for (int n = 1 + dice.nextInt(3); n > 0 && tokens.size() > 1; n--) {
      int i = dice.nextInt(tokens.size());
      String other = tokens.get(dice.nextInt(tokens.size()));
      if (chance(60)) {
        tokens.set(i, other);
      } else if (chance(50)) {
        tokens.add(i, other);
      } else {
        tokens.remove(i);
      }
    }
    return bytes(String.join("", tokens));
  }

  /** A text of words and signs by chance, for faults that a spoilt byte does not find. */
  private byte[] babble() {
    StringBuilder all = new StringBuilder();
    String[] signs = {";", ",", "[", "]", "(", ")", "<", ">", "=", "+", "-", "*", "1", "99999", "501", "x", "ball"};
    for (int n = dice.nextInt(12); n > 0; n--) {
      all.append(chance(60) ? pick(Model.OWN.toArray(new String[0])) : pick(signs)).append(chance(80) ? " " : "");
    }
    return all.toString().getBytes(StandardCharsets.ISO_8859_1);
  }

  private static byte[] bytes(String text) {
    byte[] all = text.getBytes(StandardCharsets.ISO_8859_1);
    return all.length > 1000 ? Arrays.copyOf(all, 1000) : all;
  }

  private static void faults(int seed) {
    Random dice = new Random(seed);
    Pair pair = new Pair("faults " + seed);
    for (int i = 0; i < 40; i++) {
      RandomTest maker = new RandomTest(dice, dice.nextInt(12));
      byte[] text = bytes(maker.rulesText(dice.nextInt(dice.nextInt(100) < 10 ? 30 : 6)));
      int what = dice.nextInt(100);
      pair.text(what < 10 ? text : what < 45 ? maker.spoil(text) : what < 85 ? maker.jumble(text) : maker.babble());
      pair.rules();
    }
    pair.compareBook();
  }

  private void acts(Pair pair, int reports, int gifts, int calls) {
    int days = chance(40) ? 24 : 1 + dice.nextInt(6);
    int houses = 1 + dice.nextInt(8);
    int codes = chance(50) ? reports + 1 : 9999;
    int most = chance(60) ? 2 : 5;
    for (int i = 0; i < reports + gifts + calls; i++) {
      int what = dice.nextInt(reports + gifts + calls);
      if (what < reports) {
        StringBuilder wishes = new StringBuilder();
        for (int n = dice.nextInt(4); n > 0; n--) {
          wishes.append(pick(NAMES)).append(chance(97) ? " " : "  \n ");
        }
        if (chance(2)) {
          wishes.append(pick(new String[] {"kind", "5", "abcdefghi", ".", "a b c d"}));
        }
        pair.text(wishes.toString());
        pair.report(chance(30) ? 0 : dice.nextInt(codes) + 1, dice.nextInt(chance(30) ? 3 : 18),
            dice.nextInt(4), dice.nextInt(houses), 1 + dice.nextInt(days));
      } else if (what < reports + gifts) {
        pair.gifts(dice.nextInt(kinds + 1), 1 + dice.nextInt(days), 1 + dice.nextInt(chance(95) ? most : 99));
      } else {
        pair.call(dice.nextInt(kinds + 1), 1 + dice.nextInt(days));
      }
      if (chance(5)) {
        pair.annul(dice.nextInt(i + 3));
      }
    }
  }

  private static void run(int seed, boolean big) {
    Random dice = new Random(seed);
    Pair pair = new Pair((big ? "big run " : "run ") + seed);
    int kinds = big ? 10 : dice.nextInt(7);
    RandomTest maker = new RandomTest(dice, kinds);
    pair.text(bytes(maker.rulesText(dice.nextInt(big ? 16 : 10))));
    if (pair.rules() < 0) {
      return;
    }
    pair.compareBook();
    pair.compareGiving();
    maker.acts(pair, big ? 60 : dice.nextInt(16), big ? 40 : dice.nextInt(20), big ? 2 : dice.nextInt(3));
    pair.compareChildren();
    for (int i = 0; i < 2; i++) {
      pair.give();
      pair.blind();
      pair.compareGiving();
      pair.spend(maker.chance(50) ? 100000 : dice.nextInt(50));
      pair.spend(3);
      maker.acts(pair, 3, 2, 1);
      pair.compareGiving();
      pair.as(dice.nextInt(pair.model.acts.size() + 2) - 1);
      pair.compareChildren();
    }
  }

  /** Many children and too few gifts, liked much alike or all unlike one another. */
  private static void deal(int seed) {
    Random dice = new Random(seed);
    Pair pair = new Pair("deal " + seed);
    int kinds = 2 + dice.nextInt(9);
    RandomTest maker = new RandomTest(dice, kinds);
    for (int i = 0; i < kinds; i++) {
      maker.kind();
    }
    boolean alike = maker.chance(60);
    String least = maker.chance(50) ? "" : "0-";
    for (int i = dice.nextInt(9); i > 0; i--) {
      maker.text.append(alike ? "likes " + least + (1 + dice.nextInt(2)) : "likes age*" + dice.nextInt(9) + "+school*"
          + dice.nextInt(9) + "-" + dice.nextInt(99)).append(" of ");
      maker.which(2);
      maker.text.append(" for ").append(maker.pick(FACTS)).append("<").append(dice.nextInt(12)).append(";");
    }
    maker.text.append("gifts 2 for all;gifts 3 for age>9;gifts 1 for age<4;even ").append(dice.nextInt(500)).append(";");
    if (maker.chance(30)) {
      maker.text.append("never any for school>8;");
    }
    pair.text(bytes(maker.text.toString()));
    if (pair.rules() < 0) {
      return;
    }
    int children = 2 + dice.nextInt(42);
    int days = maker.chance(50) ? 24 : 1 + dice.nextInt(8);
    for (int i = 1; i <= children; i++) {
      pair.report(i, dice.nextInt(18), dice.nextInt(10), dice.nextInt(6), 1 + dice.nextInt(days));
    }
    for (int gifts = children * (1 + dice.nextInt(5)) / 3, n = 0; gifts > 0; gifts -= n) {
      n = 1 + dice.nextInt(4);
      pair.gifts(dice.nextInt(kinds), 1 + dice.nextInt(days), n);
    }
    pair.give();
    pair.blind();
    pair.compareGiving();
    pair.spend(1 + dice.nextInt(maker.chance(50) ? 100 : 100000));
    pair.compareGiving();
  }

  /** A number for any call: mostly small, at times one that can't be. */
  private int number(int most) {
    if (chance(4)) {
      int[] odd = {Integer.MIN_VALUE, Integer.MAX_VALUE, -1, -2, 100, 1000, 10000, 100001};
      return odd[dice.nextInt(odd.length)];
    }
    return dice.nextInt(most + 2) - (chance(5) ? 1 : 0);
  }

  private void wildCall(Pair p) {
    WinterToys t = p.toys;
    Model m = p.model;
    int a = number(40);
    int b = number(10);
    int c = number(24);
    switch (dice.nextInt(32)) {
      case 0: p.same("end(" + a + ")", t.end(a) ? 1 : 0, m.end(a) ? 1 : 0); break;
      case 1: p.same("fault(" + b + ")", t.fault(b), m.fault(b)); break;
      case 2: p.same("name(" + b + ", " + c + ")", t.name(a < 20, b, c), m.name(a < 20, b, c)); break;
      case 3: p.same("marked(" + b + ", " + c + ")", t.marked(b, c), m.marked(b, c)); break;
      case 4: case 5: case 6: case 7: p.text(chance(50) ? "" : pick(NAMES) + " " + pick(NAMES));
        p.report(number(9), number(17), number(2), number(3), number(24)); break;
      case 8: case 9: case 10: p.gifts(b, c, number(3)); break;
      case 11: p.call(b, c); break;
      case 12: p.annul(number(m.acts.size())); break;
      case 13: p.as(number(m.acts.size())); break;
      case 14: p.same("all(" + b + ")", t.all(b), m.all(b)); break;
      case 15: p.same("child(" + a + ")", t.child(a), m.child(a)); break;
      case 16: p.same("of(" + a + ", " + b + ")", t.of(a, b), m.of(a, b)); break;
      case 17: p.same("wish(" + a + ", " + b + ", " + c + ")", t.wish(a, b, c), m.wish(a, b, c)); break;
      case 18: p.same("may(" + a + ", " + b + ")", t.may(a, b), m.may(a, b)); break;
      case 19: p.same("points(" + a + ", " + b + ")", t.points(a, b), m.points(a, b)); break;
      case 20: p.give(); break;
      case 21: p.same("given(" + b + ")", t.given(b), m.given(b)); break;
      case 22: p.same("gets(" + a + ")", t.gets(a), m.gets(a)); break;
      case 23: p.same("left(" + b + ")", t.left(b), m.left(b)); break;
      case 24: p.blind(); break;
      case 25: p.same("lacks(" + b + ", " + c + ")", t.lacks(b, c), m.lacks(b, c)); break;
      case 26: p.same("price(" + a + ")", t.price(a), m.price(a)); break;
      case 27: p.spend(number(60)); p.same("spent()", t.spent(), m.spent()); break;
      case 28: p.same("right()", t.right(), m.right()); break;
      case 29: p.same("walks(" + b + ")", t.walks(b), m.walks(b)); p.same("bag(" + b + ")", t.bag(b), m.bag(b)); break;
      case 30: p.same("queue(" + c + ", " + b + ")", t.queue(c, b, 1), m.queue(c, b, 1)); break;
      default: p.same("label(" + a + ")", t.label(a), m.label(a)); p.same("at(" + c + ")", t.at(c), m.at(c)); break;
    }
  }

  /** Any calls in any order. */
  private static void wild(int seed) {
    Random dice = new Random(seed);
    Pair pair = new Pair("wild run " + seed);
    int kinds = 1 + dice.nextInt(10);
    RandomTest maker = new RandomTest(dice, kinds);
    byte[] text = bytes(maker.rulesText(dice.nextInt(8)));
    for (int i = 0; i < 400; i++) {
      if (i == 30 || maker.chance(1)) {
        pair.same("end(0)", pair.toys.end(0) ? 1 : 0, pair.model.end(0) ? 1 : 0);
        pair.text(maker.chance(80) ? text : maker.spoil(text.clone()));
        pair.rules();
      }
      maker.wildCall(pair);
    }
  }

  public static void main(String[] args) {
    int from = args.length > 0 ? Integer.parseInt(args[0]) : 1;
    int to = args.length > 1 ? Integer.parseInt(args[1]) : 250;
    for (int seed = from; seed <= to; seed++) {
      faults(seed);
      run(seed, false);
      deal(seed);
      wild(seed);
      if (seed % 10 == 0) {
        run(seed, true);
      }
    }
    System.out.println(Pair.compared + " answers compared with the model, " + Pair.wrong + " differ");
    if (Pair.wrong > 0) {
      System.exit(1);
    }
  }
}
