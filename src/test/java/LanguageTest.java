import java.io.IOException;
import java.lang.reflect.Field;
import java.lang.reflect.Method;
import java.lang.reflect.Modifier;
import java.nio.file.Files;
import java.nio.file.Path;
import java.util.ArrayList;
import java.util.Arrays;
import java.util.HashSet;
import java.util.List;
import java.util.Set;
import java.util.TreeSet;
import java.util.regex.Matcher;
import java.util.regex.Pattern;

/** The class's face as the document tells it, and those rules of LANGUAGE.md that can be seen in the text. */
public final class LanguageTest {
  private static final String[] FACE = {"int feed(int,int,int,int,int)", "boolean end(int)", "int rules()",
    "int fault(int)", "int name(boolean,int,int)", "int marked(int,int)", "int report(int,int,int,int,int)",
    "int gifts(int,int,int)", "int call(int,int)", "int annul(int)", "boolean as(int)", "int all(int)",
    "int child(int)", "int of(int,int)", "int wish(int,int,int)", "int may(int,int)", "int points(int,int)",
    "int give()", "int given(int)", "int gets(int)", "int left(int)", "int blind()", "int lacks(int,int)",
    "int price(int)", "int spend(int)", "int spent()", "int right()", "int walks(int)", "int bag(int)",
    "int queue(int,int,int)", "int label(int)", "int at(int)"};

  private static String told(Method m) {
    List<String> types = new ArrayList<>();
    for (Class<?> c : m.getParameterTypes()) {
      types.add(c.getSimpleName());
    }
    return m.getReturnType().getSimpleName() + " " + m.getName() + "(" + String.join(",", types) + ")";
  }

  private static void face() {
    Class<WinterToys> c = WinterToys.class;
    Check.due("rule 1: public final", c.getModifiers() & (Modifier.PUBLIC | Modifier.FINAL),
        Modifier.PUBLIC | Modifier.FINAL);
    TreeSet<String> open = new TreeSet<>();
    Set<String> names = new HashSet<>();
    for (Method m : c.getDeclaredMethods()) {
      if (Modifier.isPublic(m.getModifiers())) {
        open.add(told(m));
        names.add(m.getName());
      } else {
        Check.due("rule 1: private " + m, Modifier.isPrivate(m.getModifiers()), true);
      }
    }
    Check.same("rule 1: methods", open.toString(), new TreeSet<>(Arrays.asList(FACE)).toString());
    for (Field f : c.getDeclaredFields()) {
      Check.due("rule 1: " + f, Modifier.isPrivate(f.getModifiers()), !f.getName().equals("NONE"));
    }
    Check.due("rule 11: classes", c.getDeclaredClasses().length <= 12, true);
    List<Class<?>> all = new ArrayList<>(Arrays.asList(c.getDeclaredClasses()));
    for (Class<?> inside : all) {
      Check.due("rule 2: static " + inside, Modifier.isStatic(inside.getModifiers()), true);
      for (Method m : inside.getDeclaredMethods()) {
        Check.due("rule 1: the name of a private one: " + m,
            Modifier.isPrivate(m.getModifiers()) && names.contains(m.getName()), false);
      }
    }
    all.add(c);
    for (Class<?> one : all) {
      members(one);
    }
    for (Method m : c.getDeclaredMethods()) {
      Check.due("rule 1: the name of a private one: " + m,
          Modifier.isPrivate(m.getModifiers()) && names.contains(m.getName()), false);
    }
  }

  private static void members(Class<?> c) {
    int fields = 0;
    for (Field f : c.getDeclaredFields()) {
      if (!Modifier.isStatic(f.getModifiers())) {
        fields++;
      } else {
        Check.due("rule 5: final " + f, Modifier.isFinal(f.getModifiers()), true);
      }
    }
    Check.due("rule 11: fields of " + c, fields <= 20, true);
    for (Method m : c.getDeclaredMethods()) {
      Check.due("rule 11: parameters of " + m, m.getParameterCount() <= 7, true);
    }
  }

  /** Comments, texts and characters go, so that what is left is code. */
  private static String code(String source) {
    return source.replaceAll("(?s)/\\*.*?\\*/", " ").replaceAll("//[^\n]*", " ")
        .replaceAll("\"(\\\\.|[^\"\\\\])*\"", "\"\"").replaceAll("'(\\\\.|[^'\\\\])'", "0");
  }

  private static void words(String code) {
    String[] ruledOut = {"throw", "try", "catch", "finally", "synchronized", "assert", "->", "::", "package", "goto",
      "Random", "Thread", "Object", "hashCode", "toString", "System.out", "System.in", "nanoTime",
      "currentTimeMillis", "float", "double", "native", "volatile", "Exact", "null"};
    for (String word : ruledOut) {
      String pattern = Character.isLetter(word.charAt(0)) ? "\\b" + Pattern.quote(word) + "\\b" : Pattern.quote(word);
      Check.due("rules 2, 3, 6, 13: " + word, Pattern.compile(pattern).matcher(code).find(), false);
    }
    Matcher imports = Pattern.compile("import\\s+([\\w.]+)").matcher(code);
    while (imports.find()) {
      Check.same("rule 4: import", imports.group(1), "java.util.Arrays");
    }
    Matcher calls = Pattern.compile("\\b(Math|Integer|Long|Arrays|System|Character)\\.(\\w+)").matcher(code);
    Set<String> known = Set.of("Math.min", "Math.max", "Integer.bitCount", "Arrays.fill");
    while (calls.find()) {
      Check.due("rule 4: " + calls.group(), known.contains(calls.group()), true);
    }
  }

  private static void lengths(String source) {
    Matcher m = Pattern.compile("(?m)^( +)(?![^\n]*\\bclass\\b)[\\w\\[\\] ]+\\([^)]*\\) \\{\\n(.*?)^\\1\\}\\n",
        Pattern.DOTALL).matcher(source);
    int found = 0;
    while (m.find()) {
      found++;
      int lines = m.group(2).split("\n").length;
      Check.due("rule 11: a method of " + lines + " lines", lines <= 60, true);
    }
    Check.due("rule 11: methods were found", found > 100, true);
  }

  public static void main(String[] args) throws IOException {
    face();
    String source = Files.readString(Path.of("src/main/java/WinterToys.java"));
    Check.due("rule 4: constants of signs 1 to 127", source.chars().allMatch(c -> c < 128), true);
    words(code(source));
    lengths(source);
    Check.finish("LanguageTest");
  }
}
