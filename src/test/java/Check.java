import java.nio.charset.StandardCharsets;
import java.util.Arrays;

/** What the tests written by hand share: feeding texts, comparing answers, and the exit code. */
final class Check {
  static final int NONE = WinterToys.NONE;
  private static int wrong;
  private static int compared;

  private Check() {
  }

  static void due(String what, int got, int want) {
    compared++;
    if (got != want) {
      wrong++;
      System.out.println(what + ": answered " + got + ", due is " + want);
    }
  }

  static void due(String what, boolean got, boolean want) {
    due(what, got ? 1 : 0, want ? 1 : 0);
  }

  static void finish(String test) {
    System.out.println(test + ": " + compared + " answers, " + wrong + " wrong");
    if (wrong > 0 || compared == 0) {
      System.exit(1);
    }
  }

  static int feed(WinterToys toys, byte[] twenty) {
    int[] n = new int[5];
    for (int i = 0; i < 20; i++) {
      n[i / 4] = n[i / 4] << 8 | twenty[i] & 255;
    }
    return toys.feed(n[0], n[1], n[2], n[3], n[4]);
  }

  /** Puts a text on an empty tape. */
  static void text(WinterToys toys, String text) {
    byte[] all = text.getBytes(StandardCharsets.ISO_8859_1);
    byte[] filled = Arrays.copyOf(all, (all.length + 19) / 20 * 20);
    for (int i = 0; i < filled.length; i += 20) {
      due("feed of " + text, feed(toys, Arrays.copyOfRange(filled, i, i + 20)), i + 20);
    }
    due("end of " + text, toys.end(all.length), true);
  }

  static int rules(WinterToys toys, String text) {
    text(toys, text);
    return toys.rules();
  }

  /** A text with a fault; its place is where the text has a ^ (which is no part of it). */
  static void fault(int number, String text) {
    WinterToys toys = new WinterToys();
    due("4: rules of " + text, rules(toys, text.replace("^", "")), -1);
    due("5: fault(0) of " + text, toys.fault(0), number);
    due("5: fault(1) of " + text, toys.fault(1), text.indexOf('^'));
  }

  /** A text without one, of so many statements. */
  static void sound(int statements, String text) {
    WinterToys toys = new WinterToys();
    due("4: rules of " + text, rules(toys, text), statements);
    due("5: fault(0) of " + text, toys.fault(0), 0);
    due("5: fault(1) of " + text, toys.fault(1), NONE);
  }

  /** A new object with rules that must be sound. */
  static WinterToys barn(String text) {
    WinterToys toys = new WinterToys();
    due("rules of " + text, rules(toys, text) >= 0, true);
    return toys;
  }

  static int report(WinterToys toys, String wishes, int code, int age, int school, int house, int day) {
    text(toys, wishes);
    return toys.report(code, age, school, house, day);
  }

  static String label(WinterToys toys) {
    StringBuilder s = new StringBuilder();
    for (int k = 0; toys.at(k) != NONE; k++) {
      s.append((char) toys.at(k));
    }
    return s.toString();
  }

  static String name(WinterToys toys, boolean mark, int i) {
    StringBuilder s = new StringBuilder();
    for (int k = 0; toys.name(mark, i, k) != NONE; k++) {
      s.append((char) toys.name(mark, i, k));
    }
    return s.toString();
  }

  static String wish(WinterToys toys, int child, int i) {
    StringBuilder s = new StringBuilder();
    for (int k = 0; toys.wish(child, i, k) != NONE; k++) {
      s.append((char) toys.wish(child, i, k));
    }
    return s.toString();
  }

  static void same(String what, String got, String want) {
    due(what + " (\"" + got + "\", due is \"" + want + "\")", got.equals(want), true);
  }
}
