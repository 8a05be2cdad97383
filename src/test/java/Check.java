import java.nio.charset.StandardCharsets;
import java.util.Arrays;

/** What the tests written by hand share: feeding texts, comparing answers, and the exit code. */
final class Check {
  static final int NONE = WinterToys.NONE;
  private static int wrong;
  private static int compared;

  private Check() {
  }

  static void due(String what, int got, int want) {
    compared++;
    if (got != want) {
      wrong++;
      System.out.println(what + ": answered " + got + ", due is " + want);
    }
  }

  static void due(String what, boolean got, boolean want) {
    due(what, got ? 1 : 0, want ? 1 : 0);
  }

  static void finish(String test) {
    System.out.println(test + ": " + compared + " answers, " + wrong + " wrong");
    if (wrong > 0 || compared == 0) {
      System.exit(1);
    }
  }

  static int feed(WinterToys toys, byte[] twenty) {
    int[] n = new int[5];
    for (int i = 0; i < 20; i++) {
      n[i / 4] = n[i / 4] << 8 | twenty[i] & 255;
    }
    return toys.feed(n[0], n[1], n[2], n[3], n[4]);
  }

  /** Puts a text on an empty tape. */
  static void text(WinterToys toys, String text) {
    byte[] all = text.getBytes(StandardCharsets.ISO_8859_1);
    byte[] filled = Arrays.copyOf(all, (all.length + 19) / 20 * 20);
    for (int i = 0; i < filled.length; i += 20) {
      due("feed of " + text, feed(toys, Arrays.copyOfRange(filled, i, i + 20)), i + 20);
    }
    due("end of " + text, toys.end(all.length), true);
  }

  static int rules(WinterToys toys, String text) {
    text(toys, text);
    return toys.rules();
  }

  /** A new object with rules that must be sound. */
  static WinterToys barn(String text) {
    WinterToys toys = new WinterToys();
    due("rules of " + text, rules(toys, text) >= 0, true);
    return toys;
  }

  static int report(WinterToys toys, String wishes, int code, int age, int school, int house, int day) {
    text(toys, wishes);
    return toys.report(code, age, school, house, day);
  }

  static String label(WinterToys toys) {
    StringBuilder s = new StringBuilder();
    for (int k = 0; toys.at(k) != NONE; k++) {
      s.append((char) toys.at(k));
    }
    return s.toString();
  }

  static String name(WinterToys toys, boolean mark, int i) {
    StringBuilder s = new StringBuilder();
    for (int k = 0; toys.name(mark, i, k) != NONE; k++) {
      s.append((char) toys.name(mark, i, k));
    }
    return s.toString();
  }

  static String wish(WinterToys toys, int child, int i) {
    StringBuilder s = new StringBuilder();
    for (int k = 0; toys.wish(child, i, k) != NONE; k++) {
      s.append((char) toys.wish(child, i, k));
    }
    return s.toString();
  }

  static void same(String what, String got, String want) {
    due(what + " (\"" + got + "\", due is \"" + want + "\")", got.equals(want), true);
  }
}
