/**
 * Every call with numbers at and beyond every bound of the document, in every state that an object may be in: each
 * answer is the model's, nothing is thrown, and what was refused has changed nothing.
 */
public final class EdgesTest {
  private static final int[] EDGES = {Integer.MIN_VALUE, Integer.MIN_VALUE + 1, -2000000000, -65536, -1000, -2, -1, 0,
    1, 2, 3, 4, 5, 7, 8, 9, 10, 11, 17, 18, 24, 25, 31, 32, 39, 40, 41, 64, 79, 80, 81, 99, 100, 199, 200, 201, 255, 256,
    500, 999, 1000, 1001, 9999, 10000, 65536, 99999, 100000, 100001, Integer.MAX_VALUE - 1, Integer.MAX_VALUE};
  private static final int[] FEW = {Integer.MIN_VALUE, -2, -1, 0, 1, 2, 3, 7, 8, 9, 10, 17, 18, 24, 25, 39, 40, 41, 99,
    100, Integer.MAX_VALUE};

  private static void oneNumber(Pair p) {
    WinterToys t = p.toys;
    Model m = p.model;
    for (int a : EDGES) {
      p.same("fault(" + a + ")", t.fault(a), m.fault(a));
      p.same("all(" + a + ")", t.all(a), m.all(a));
      p.same("child(" + a + ")", t.child(a), m.child(a));
      p.same("given(" + a + ")", t.given(a), m.given(a));
      p.same("gets(" + a + ")", t.gets(a), m.gets(a));
      p.same("left(" + a + ")", t.left(a), m.left(a));
      p.same("price(" + a + ")", t.price(a), m.price(a));
      p.same("walks(" + a + ")", t.walks(a), m.walks(a));
      p.same("bag(" + a + ")", t.bag(a), m.bag(a));
      p.same("label(" + a + ")", t.label(a), m.label(a));
      p.same("at(" + a + ")", t.at(a), m.at(a));
    }
  }

  private static void moreNumbers(Pair p) {
    WinterToys t = p.toys;
    Model m = p.model;
    for (int a : FEW) {
      for (int b : FEW) {
        p.same("marked(" + a + ", " + b + ")", t.marked(a, b), m.marked(a, b));
        p.same("of(" + a + ", " + b + ")", t.of(a, b), m.of(a, b));
        p.same("may(" + a + ", " + b + ")", t.may(a, b), m.may(a, b));
        p.same("points(" + a + ", " + b + ")", t.points(a, b), m.points(a, b));
        p.same("lacks(" + a + ", " + b + ")", t.lacks(a, b), m.lacks(a, b));
        p.same("name(false, " + a + ", " + b + ")", t.name(false, a, b), m.name(false, a, b));
        p.same("name(true, " + a + ", " + b + ")", t.name(true, a, b), m.name(true, a, b));
        p.same("wish(0, " + a + ", " + b + ")", t.wish(0, a, b), m.wish(0, a, b));
        p.same("wish(" + a + ", 0, " + b + ")", t.wish(a, 0, b), m.wish(a, 0, b));
        for (int what = -1; what <= 3; what++) {
          p.same("queue(" + a + ", " + b + ", " + what + ")", t.queue(a, b, what), m.queue(a, b, what));
        }
      }
    }
  }

  /** Acts and tapes: those that are not refused change the class and the model alike. */
  private static void changes(Pair p) {
    WinterToys t = p.toys;
    Model m = p.model;
    for (int a : EDGES) {
      p.as(a);
      p.same("spend(" + a + ")", t.spend(a), m.spend(a));
      p.same("annul(" + a + ")", t.annul(a), m.annul(a));
      p.same("end(" + a + ")", t.end(a) ? 1 : 0, m.end(a) ? 1 : 0);
      p.report(a, 1, 1, 1, 1);
      p.report(1, a, 1, 1, 1);
      p.report(1, 1, a, 1, 1);
      p.report(1, 1, 1, a, 1);
      p.report(1, 1, 1, 1, a);
      p.gifts(a, 1, 1);
      p.gifts(0, a, 1);
      p.gifts(0, 1, a);
      p.call(a, 24);
      p.call(0, a);
      p.same("feed", t.feed(a, a, a, a, a), m.feed(a, a, a, a, a));
    }
    p.same("rules()", t.rules(), m.rules());
  }

  private static void edges(Pair p) {
    oneNumber(p);
    moreNumbers(p);
    compare(p);
    changes(p);
    compare(p);
    p.give();
    p.blind();
    compare(p);
  }

  private static void compare(Pair p) {
    p.same("fault(0)", p.toys.fault(0), p.model.fault(0));
    p.same("fault(1)", p.toys.fault(1), p.model.fault(1));
    p.compareBook();
    p.compareChildren();
    p.compareGiving();
  }

  private static Pair ruled(String title) {
    Pair p = new Pair(title);
    StringBuilder text = new StringBuilder();
    for (int i = 0; i < 10; i++) {
      text.append("kind k").append((char) ('a' + i)).append(" worth ").append(1 + i * 50).append(" price ")
          .append(i * 100).append(" at ").append(i * 20).append(i < 8 ? " is m" + (char) ('a' + i) + ";" : ";");
    }
    p.text(text + "gifts age-5 for all;likes age*school of ma or kb for house>1;never kc for wish x;even 99;");
    p.rules();
    return p;
  }

  private static Pair reported(String title, int reports, int gifts) {
    Pair p = ruled(title);
    for (int i = 0; i < reports; i++) {
      p.text(i % 2 == 0 ? "x abcdefgh" : "y z");
      p.report(i, i % 18, i % 3, i % 4, 1 + i % 24);
    }
    for (int i = 0; i < gifts; i++) {
      p.gifts(i % 10, 1 + i * 5 % 24, 1 + i % 4);
    }
    return p;
  }

  public static void main(String[] args) {
    edges(new Pair("a new one"));
    edges(ruled("rules alone"));
    edges(reported("two children", 2, 2));
    edges(reported("forty children", 45, 20));
    Pair full = reported("all acts", 80, 120);
    edges(full);
    Pair given = reported("behind give()", 45, 20);
    given.give();
    edges(given);
    Pair spent = reported("behind spend()", 45, 20);
    spent.give();
    spent.spend(2000);
    edges(spent);
    Pair faulty = reported("behind a fault", 45, 20);
    faulty.give();
    faulty.text("even");
    faulty.rules();
    edges(faulty);
    System.out.println("EdgesTest: " + Pair.compared + " answers compared with the model, " + Pair.wrong + " differ");
    if (Pair.wrong > 0) {
      System.exit(1);
    }
  }
}
