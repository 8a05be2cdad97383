import java.io.IOException;
import java.lang.reflect.Field;
import java.lang.reflect.Method;
import java.lang.reflect.Modifier;
import java.nio.file.Files;
import java.nio.file.Path;
import java.util.ArrayList;
import java.util.Arrays;
import java.util.HashSet;
import java.util.List;
import java.util.Map;
import java.util.Set;
import java.util.TreeMap;
import java.util.TreeSet;
import java.util.regex.Matcher;
import java.util.regex.Pattern;

/** The class's face as the document tells it, and those rules of LANGUAGE.md that can be seen in the text. */
public final class LanguageTest {
  private static final String[] FACE = {"int feed(int,int,int,int,int)", "boolean end(int)", "int rules()",
    "int fault(int)", "int name(boolean,int,int)", "int marked(int,int)", "int report(int,int,int,int,int)",
    "int gifts(int,int,int)", "int call(int,int)", "int annul(int)", "boolean as(int)", "int all(int)",
    "int child(int)", "int of(int,int)", "int wish(int,int,int)", "int may(int,int)", "int points(int,int)",
    "int give()", "int given(int)", "int gets(int)", "int left(int)", "int blind()", "int lacks(int,int)",
    "int price(int)", "int spend(int)", "int spent()", "int right()", "int walks(int)", "int bag(int)",
    "int queue(int,int,int)", "int label(int)", "int at(int)"};

  private static String told(Method m) {
    List<String> types = new ArrayList<>();
    for (Class<?> c : m.getParameterTypes()) {
      types.add(c.getSimpleName());
    }
    return m.getReturnType().getSimpleName() + " " + m.getName() + "(" + String.join(",", types) + ")";
  }

  private static void face() {
    Class<WinterToys> c = WinterToys.class;
    Check.due("rule 1: public final", c.getModifiers() & (Modifier.PUBLIC | Modifier.FINAL),
        Modifier.PUBLIC | Modifier.FINAL);
    TreeSet<String> open = new TreeSet<>();
    Set<String> names = new HashSet<>();
    for (Method m : c.getDeclaredMethods()) {
      if (Modifier.isPublic(m.getModifiers())) {
        open.add(told(m));
        names.add(m.getName());
      } else {
        Check.due("rule 1: private " + m, Modifier.isPrivate(m.getModifiers()), true);
      }
    }
    Check.same("rule 1: methods", open.toString(), new TreeSet<>(Arrays.asList(FACE)).toString());
    for (Field f : c.getDeclaredFields()) {
      Check.due("rule 1: " + f, Modifier.isPrivate(f.getModifiers()), !f.getName().equals("NONE"));
    }
    Check.due("rule 11: classes", c.getDeclaredClasses().length <= 12, true);
    List<Class<?>> all = new ArrayList<>(Arrays.asList(c.getDeclaredClasses()));
    for (Class<?> inside : all) {
      Check.due("rule 2: static " + inside, Modifier.isStatic(inside.getModifiers()), true);
      for (Method m : inside.getDeclaredMethods()) {
        Check.due("rule 1: the name of a private one: " + m,
            Modifier.isPrivate(m.getModifiers()) && names.contains(m.getName()), false);
      }
    }
    all.add(c);
    for (Class<?> one : all) {
      members(one);
    }
    for (Method m : c.getDeclaredMethods()) {
      Check.due("rule 1: the name of a private one: " + m,
          Modifier.isPrivate(m.getModifiers()) && names.contains(m.getName()), false);
    }
  }

  private static void members(Class<?> c) {
    int fields = 0;
    for (Field f : c.getDeclaredFields()) {
      if (!Modifier.isStatic(f.getModifiers())) {
        fields++;
      } else {
        Check.due("rule 5: final " + f, Modifier.isFinal(f.getModifiers()), true);
      }
    }
    Check.due("rule 11: fields of " + c, fields <= 20, true);
    for (Method m : c.getDeclaredMethods()) {
      Check.due("rule 11: parameters of " + m, m.getParameterCount() <= 7, true);
    }
  }

  /** Comments, texts and characters go, so that what is left is code. */
  private static String code(String source) {
    return source.replaceAll("(?s)/\\*.*?\\*/", " ").replaceAll("//[^\n]*", " ")
        .replaceAll("\"(\\\\.|[^\"\\\\])*\"", "\"\"").replaceAll("'(\\\\.|[^'\\\\])'", "0");
  }

  private static void words(String code) {
    String[] ruledOut = {"throw", "try", "catch", "finally", "synchronized", "assert", "->", "::", "package", "goto",
      "Random", "Thread", "Object", "hashCode", "toString", "System.out", "System.in", "nanoTime",
      "currentTimeMillis", "float", "double", "native", "volatile", "Exact", "null"};
    for (String word : ruledOut) {
      String pattern = Character.isLetter(word.charAt(0)) ? "\\b" + Pattern.quote(word) + "\\b" : Pattern.quote(word);
      Check.due("rules 2, 3, 6, 13: " + word, Pattern.compile(pattern).matcher(code).find(), false);
    }
    Matcher imports = Pattern.compile("import\\s+([\\w.]+)").matcher(code);
    while (imports.find()) {
      Check.same("rule 4: import", imports.group(1), "java.util.Arrays");
    }
    Matcher calls = Pattern.compile("\\b(Math|Integer|Long|Arrays|System|Character)\\.(\\w+)").matcher(code);
    Set<String> known = Set.of("Math.min", "Math.max", "Integer.bitCount", "Arrays.fill");
    while (calls.find()) {
      Check.due("rule 4: " + calls.group(), known.contains(calls.group()), true);
    }
  }

  private static void lengths(String source) {
    Matcher m = Pattern.compile("(?m)^( +)(?![^\n]*\\bclass\\b)[\\w\\[\\] ]+\\([^)]*\\) \\{\\n(.*?)^\\1\\}\\n",
        Pattern.DOTALL).matcher(source);
    int found = 0;
    while (m.find()) {
      found++;
      int lines = m.group(2).split("\n").length;
      Check.due("rule 11: a method of " + lines + " lines", lines <= 60, true);
    }
    Check.due("rule 11: methods were found", found > 100, true);
  }

  /** Which methods call which, as Class.method; what is called on a field is of the class that bears its name. */
  private static Map<String, Set<String>> callsOf(String code) {
    Map<String, String> bodies = new TreeMap<>();
    Matcher m = Pattern.compile("(?m)^ {4}private static final class (\\w+)|"
        + "^( {4}| {8})(?:[a-z][\\w\\[\\]]* )+(\\w+)\\([^)]*\\) \\{\\n((?s:.*?))^\\2\\}\\n").matcher(code);
    String owner = "WinterToys";
    while (m.find()) {
      if (m.group(1) != null) {
        owner = m.group(1);
      } else {
        bodies.put(owner + "." + m.group(3), m.group(4));
      }
    }
    Map<String, Set<String>> calls = new TreeMap<>();
    bodies.forEach((name, body) -> {
      Set<String> called = new TreeSet<>();
      Matcher call = Pattern.compile("(?:\\b(\\w+)\\.)?\\b(\\w+)\\(").matcher(body);
      while (call.find()) {
        String on = call.group(1) == null ? name.substring(0, name.indexOf('.'))
            : Character.toUpperCase(call.group(1).charAt(0)) + call.group(1).substring(1);
        called.add(on + "." + call.group(2));
        called.add("WinterToys." + (call.group(1) == null ? call.group(2) : ""));
      }
      called.retainAll(bodies.keySet());
      calls.put(name, called);
    });
    return calls;
  }

  private static Set<String> reached(Map<String, Set<String>> calls, String from) {
    Set<String> seen = new TreeSet<>();
    List<String> open = new ArrayList<>(calls.get(from));
    while (!open.isEmpty()) {
      String next = open.remove(open.size() - 1);
      if (seen.add(next)) {
        open.addAll(calls.get(next));
      }
    }
    return seen;
  }

  private static int depth(Map<String, Set<String>> calls, String from) {
    int most = 0;
    for (String next : calls.get(from)) {
      if (!reached(calls, next).contains(from)) {
        most = Math.max(most, depth(calls, next));
      }
    }
    return 1 + most;
  }

  /** Calls that call one another are left out: the brackets of a text bound them (rule 8). */
  private static void depths(String code) {
    Map<String, Set<String>> calls = callsOf(code);
    Set<String> again = new TreeSet<>();
    for (String name : calls.keySet()) {
      int deep = depth(calls, name);
      Check.due("rule 11: " + name + " goes " + deep + " deep", deep <= 8, true);
      if (reached(calls, name).contains(name)) {
        again.add(name);
      }
    }
    Check.due("rule 11: give() goes deep", depth(calls, "WinterToys.give"), 8);
    Check.same("rule 8: what calls itself", again.toString(),
        "[Parser.readsBoth, Parser.readsEither, Parser.readsPart, Parser.readsSingle, Parser.readsSum]");
  }

  public static void main(String[] args) throws IOException {
    face();
    String source = Files.readString(Path.of("src/main/java/WinterToys.java"));
    Check.due("rule 4: constants of signs 1 to 127", source.chars().allMatch(c -> c < 128), true);
    words(code(source));
    lengths(source);
    depths(code(source));
    Check.finish("LanguageTest");
  }
}
