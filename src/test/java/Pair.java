import java.nio.charset.StandardCharsets;
import java.util.ArrayList;
import java.util.Arrays;
import java.util.List;

/** The class and the model side by side: each call goes to both, and answers that differ are told. */
final class Pair {
  static int wrong;
  static long compared;

  final WinterToys toys = new WinterToys();
  final Model model = new Model();
  final List<String> calls = new ArrayList<>();
  final String title;

  Pair(String title) {
    this.title = title;
  }

  int same(String call, int got, int want) {
    compared++;
    calls.add(call + " = " + got);
    if (got != want) {
      wrong++;
      if (wrong <= 5) {
        System.out.println(title + ": " + call + " answered " + got + ", the model says " + want);
        if (wrong == 1) {
          calls.forEach(c -> System.out.println("    " + c));
        }
      }
    }
    return got;
  }

  /** Puts a text on the tape, whatever was there. */
  void text(byte[] text) {
    byte[] filled = Arrays.copyOf(text, (text.length + 19) / 20 * 20);
    for (int i = 0; i < filled.length; i += 20) {
      int[] n = new int[5];
      for (int j = 0; j < 20; j++) {
        n[j / 4] = n[j / 4] << 8 | filled[i + j] & 255;
      }
      same("feed", toys.feed(n[0], n[1], n[2], n[3], n[4]), model.feed(n));
    }
    int n = text.length;
    calls.add("  text: " + new String(text, StandardCharsets.ISO_8859_1));
    same("end(" + n + ")", toys.end(n) ? 1 : 0, model.end(n) ? 1 : 0);
  }

  void text(String text) {
    text(text.getBytes(StandardCharsets.ISO_8859_1));
  }

  int rules() {
    int n = same("rules()", toys.rules(), model.rules());
    same("fault(0)", toys.fault(0), model.fault(0));
    same("fault(1)", toys.fault(1), model.fault(1));
    return n;
  }

  int report(int code, int age, int school, int house, int day) {
    return same("report(" + code + ", " + age + ", " + school + ", " + house + ", " + day + ")",
        toys.report(code, age, school, house, day), model.report(code, age, school, house, day));
  }

  int gifts(int kind, int day, int n) {
    return same("gifts(" + kind + ", " + day + ", " + n + ")", toys.gifts(kind, day, n), model.gifts(kind, day, n));
  }

  int call(int kind, int day) {
    return same("call(" + kind + ", " + day + ")", toys.call(kind, day), model.call(kind, day));
  }

  int annul(int act) {
    return same("annul(" + act + ")", toys.annul(act), model.annul(act));
  }

  void as(int act) {
    same("as(" + act + ")", toys.as(act) ? 1 : 0, model.as(act) ? 1 : 0);
  }

  void give() {
    same("give()", toys.give(), model.give());
  }

  void blind() {
    same("blind()", toys.blind(), model.blind());
  }

  void spend(int coins) {
    same("spend(" + coins + ")", toys.spend(coins), model.spend(coins));
  }

  void compareBook() {
    for (int i = -1; i <= 8; i++) {
      same("all(" + i + ")", toys.all(i), model.all(i));
    }
    for (int i = -1; i <= 10; i++) {
      for (int k = -1; k <= 8; k++) {
        same("name(false, " + i + ", " + k + ")", toys.name(false, i, k), model.name(false, i, k));
        same("name(true, " + i + ", " + k + ")", toys.name(true, i, k), model.name(true, i, k));
      }
      for (int m = -1; m <= 8; m++) {
        same("marked(" + i + ", " + m + ")", toys.marked(i, m), model.marked(i, m));
      }
    }
  }

  void compareChildren() {
    for (int i = 3; i <= 6; i++) {
      same("all(" + i + ")", toys.all(i), model.all(i));
    }
    int acts = model.acts.size();
    for (int i = -1; i <= acts + 1; i++) {
      same("child(" + i + ")", toys.child(i), model.child(i));
    }
    int children = model.children().size();
    int kinds = model.rules.kinds.size();
    for (int c = -1; c <= children; c++) {
      for (int w = -1; w <= 10; w++) {
        same("of(" + c + ", " + w + ")", toys.of(c, w), model.of(c, w));
      }
      for (int i = -1; i <= 4; i++) {
        for (int k = -1; k <= 8; k++) {
          same("wish(" + c + ", " + i + ", " + k + ")", toys.wish(c, i, k), model.wish(c, i, k));
        }
      }
      for (int k = -1; k <= kinds; k++) {
        same("may(" + c + ", " + k + ")", toys.may(c, k), model.may(c, k));
        same("points(" + c + ", " + k + ")", toys.points(c, k), model.points(c, k));
      }
    }
  }

  void compareGiving() {
    int children = model.result == null ? 1 : model.result.children.size();
    for (int i = -1; i <= 4; i++) {
      same("given(" + i + ")", toys.given(i), model.given(i));
    }
    for (int k = -1; k <= 10; k++) {
      same("left(" + k + ")", toys.left(k), model.left(k));
    }
    for (int from = -1; from <= 18; from += 3) {
      for (int to = -1; to <= 18; to += 4) {
        same("lacks(" + from + ", " + to + ")", toys.lacks(from, to), model.lacks(from, to));
      }
    }
    same("right()", toys.right(), model.right());
    same("spent()", toys.spent(), model.spent());
    for (int c = -1; c <= children; c++) {
      same("gets(" + c + ")", toys.gets(c), model.gets(c));
      same("price(" + c + ")", toys.price(c), model.price(c));
      same("bag(" + c + ")", toys.bag(c), model.bag(c));
      int n = same("label(" + c + ")", toys.label(c), model.label(c));
      for (int k = -1; k <= n; k++) {
        same("at(" + k + ")", toys.at(k), model.at(k));
      }
    }
    for (int b : new int[] {-1, 0, 1, 2, 3, 7, 39, 40, 41}) {
      same("walks(" + b + ")", toys.walks(b), model.walks(b));
    }
    for (int day = 0; day <= 25; day++) {
      for (int what = -1; what <= 3; what++) {
        int w = (day * 5 + what) % 11;
        same("queue(" + day + ", " + w + ", " + what + ")", toys.queue(day, w, what), model.queue(day, w, what));
      }
    }
  }
}
