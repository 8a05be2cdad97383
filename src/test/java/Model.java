import java.math.BigInteger;
import java.util.ArrayDeque;
import java.util.ArrayList;
import java.util.Arrays;
import java.util.Collections;
import java.util.Comparator;
import java.util.HashMap;
import java.util.LinkedHashMap;
import java.util.LinkedHashSet;
import java.util.List;
import java.util.Map;
import java.util.TreeMap;

/** The document once more, slowly and with the whole library, as something to compare the class with. */
final class Model {
  static final int NONE = -1;
  static final List<String> OWN = List.of("kind", "worth", "price", "at", "is", "never", "for", "likes", "of",
      "gifts", "even", "or", "and", "not", "any", "all", "wish", "age", "ages", "school", "house", "wishes");

  static final class Fault extends RuntimeException {
    private static final long serialVersionUID = 1;
    final int number;
    final int place;

    Fault(int number, int place) {
      super(null, null, false, false);
      this.number = number;
      this.place = place;
    }
  }

  record Token(char type, String text, int at) { }

  record Kind(String name, int worth, int price, int shelf, List<String> marks) { }

  interface Which { boolean has(Kind kind); }

  interface Test { boolean holds(Child child); }

  interface Sum { int of(Child child); }

  record Never(Which which, Test test) { }

  record Likes(Sum sum, Which which, Test test) { }

  record Due(Sum sum, Test test) { }

  static final class Rules {
    final List<Kind> kinds = new ArrayList<>();
    final List<String> marks = new ArrayList<>();
    final List<Never> nevers = new ArrayList<>();
    final List<Likes> likes = new ArrayList<>();
    final List<Due> dues = new ArrayList<>();
    int others;
    int even = 1000;

    Kind kind(String name) {
      for (Kind k : kinds) {
        if (k.name.equals(name)) {
          return k;
        }
      }
      return null;
    }
  }

  static final class Child {
    int number;
    int code;
    int age;
    int school;
    int house;
    int day;
    int reports;
    int mates;
    final List<Integer> agesTold = new ArrayList<>();
    final LinkedHashSet<String> wishes = new LinkedHashSet<>();

    int ages() {
      return Collections.max(agesTold) - Collections.min(agesTold);
    }
  }

  record Act(String what, int[] detail, List<String> wishes) { }

  // ---- the reader

  static final class Reader {
    final List<Token> tokens = new ArrayList<>();
    int i;
    int open;
    Rules rules = new Rules();

    Reader(byte[] text) {
      int p = 0;
      while (true) {
        int behind = p;
        while (p < text.length && (text[p] == 10 || text[p] == 32)) {
          p++;
        }
        if (p == text.length) {
          tokens.add(new Token('E', "", p));
          return;
        }
        int from = p;
        boolean letters = text[p] >= 'a' && text[p] <= 'z';
        boolean digits = text[p] >= '0' && text[p] <= '9';
        if (!letters && !digits) {
          tokens.add(new Token('S', "" + (char) (text[p] & 255), p));
          p++;
          continue;
        }
        while (p < text.length && (letters ? text[p] >= 'a' && text[p] <= 'z' : text[p] >= '0' && text[p] <= '9')) {
          p++;
        }
        int most = letters ? 8 : 5;
        if (p - from > most) {
          tokens.add(new Token('B', "", from + most));
          return;
        }
        char last = tokens.isEmpty() ? 'S' : tokens.get(tokens.size() - 1).type;
        if (from == behind && (last == 'W' || last == 'N')) {
          tokens.add(new Token('B', "", from));
          return;
        }
        tokens.add(new Token(letters ? 'W' : 'N', new String(text, from, p - from), from));
      }
    }

    Token now() {
      return tokens.get(i);
    }

    boolean is(String text) {
      return now().text.equals(text) && now().type != 'N';
    }

    Fault bad(int number) {
      return new Fault(number, now().at);
    }

    void pass(String text) {
      if (!is(text)) {
        throw bad(1);
      }
      i++;
    }

    String name() {
      if (now().type != 'W' || OWN.contains(now().text)) {
        throw bad(1);
      }
      return now().text;
    }

    int number(int least, int most) {
      if (now().type != 'N') {
        throw bad(1);
      }
      int n = Integer.parseInt(now().text);
      if (n < least || n > most) {
        throw bad(4);
      }
      i++;
      return n;
    }

    int all() {
      int n = 0;
      while (now().type != 'E') {
        statement();
        pass(";");
        n++;
      }
      return n;
    }

    void statement() {
      if (is("kind")) {
        kind();
        return;
      }
      if (!is("never") && !is("likes") && !is("gifts") && !is("even")) {
        throw bad(1);
      }
      if (rules.others == 24) {
        throw bad(5);
      }
      rules.others++;
      String first = now().text;
      i++;
      if (first.equals("even")) {
        rules.even = number(0, 1000);
        return;
      }
      Sum sum = first.equals("never") ? null : sum();
      if (first.equals("likes")) {
        pass("of");
      }
      Which which = first.equals("gifts") ? null : which();
      pass("for");
      Test test = test();
      if (first.equals("never")) {
        rules.nevers.add(new Never(which, test));
      } else if (first.equals("likes")) {
        rules.likes.add(new Likes(sum, which, test));
      } else {
        rules.dues.add(new Due(sum, test));
      }
    }

    void kind() {
      if (rules.kinds.size() == 10) {
        throw bad(5);
      }
      i++;
      String name = name();
      if (rules.kind(name) != null || rules.marks.contains(name)) {
        throw bad(2);
      }
      i++;
      pass("worth");
      int worth = number(1, 500);
      pass("price");
      int price = number(0, 1000);
      pass("at");
      Kind kind = new Kind(name, worth, price, number(0, 200), new ArrayList<>());
      rules.kinds.add(kind);
      if (!is("is")) {
        return;
      }
      do {
        i++;
        String mark = name();
        if (rules.kind(mark) != null || kind.marks.contains(mark)) {
          throw bad(2);
        }
        if (!rules.marks.contains(mark)) {
          if (rules.marks.size() == 8) {
            throw bad(5);
          }
          rules.marks.add(mark);
        }
        kind.marks.add(mark);
        i++;
      } while (is(","));
    }

    void open() {
      if (open == 8) {
        throw bad(5);
      }
      open++;
      i++;
    }

    void close(String sign) {
      pass(sign);
      open--;
    }

    Which which() {
      Which a = also();
      while (is("or")) {
        i++;
        Which left = a;
        Which right = also();
        a = k -> left.has(k) || right.has(k);
      }
      return a;
    }

    Which also() {
      Which a = atom();
      while (is("and")) {
        i++;
        Which left = a;
        Which right = atom();
        a = k -> left.has(k) && right.has(k);
      }
      return a;
    }

    Which atom() {
      if (is("not")) {
        i++;
        Which a = atom();
        return k -> !a.has(k);
      }
      if (is("[")) {
        open();
        Which a = which();
        close("]");
        return a;
      }
      if (is("any")) {
        i++;
        return k -> true;
      }
      String name = name();
      if (rules.kind(name) == null && !rules.marks.contains(name)) {
        throw bad(3);
      }
      i++;
      return k -> k.name.equals(name) || k.marks.contains(name);
    }

    Test test() {
      Test a = both();
      while (is("or")) {
        i++;
        Test left = a;
        Test right = both();
        a = c -> left.holds(c) || right.holds(c);
      }
      return a;
    }

    Test both() {
      Test a = fact();
      while (is("and")) {
        i++;
        Test left = a;
        Test right = fact();
        a = c -> left.holds(c) && right.holds(c);
      }
      return a;
    }

    Test fact() {
      if (is("not")) {
        i++;
        Test a = fact();
        return c -> !a.holds(c);
      }
      if (is("[")) {
        open();
        Test a = test();
        close("]");
        return a;
      }
      if (is("all")) {
        i++;
        return c -> true;
      }
      if (is("wish")) {
        i++;
        String name = name();
        i++;
        return c -> c.wishes.contains(name);
      }
      Sum a = sum();
      if (!is("<") && !is(">") && !is("=")) {
        throw bad(1);
      }
      String sign = now().text;
      i++;
      Sum b = sum();
      if (sign.equals("<")) {
        return c -> a.of(c) < b.of(c);
      }
      return sign.equals(">") ? c -> a.of(c) > b.of(c) : c -> a.of(c) == b.of(c);
    }

    static int bound(long n) {
      return n > 1000000 ? 1000000 : n < -1000000 ? -1000000 : (int) n;
    }

    Sum sum() {
      Sum a = part();
      while (is("+") || is("-") || is("*")) {
        String sign = now().text;
        i++;
        Sum left = a;
        Sum right = part();
        if (sign.equals("+")) {
          a = c -> bound((long) left.of(c) + right.of(c));
        } else if (sign.equals("-")) {
          a = c -> bound((long) left.of(c) - right.of(c));
        } else {
          a = c -> bound((long) left.of(c) * right.of(c));
        }
      }
      return a;
    }

    Sum part() {
      if (is("(")) {
        open();
        Sum a = sum();
        close(")");
        return a;
      }
      if (now().type == 'N') {
        int n = number(0, 99999);
        return c -> n;
      }
      Sum a;
      if (is("age")) {
        a = c -> c.age;
      } else if (is("ages")) {
        a = c -> c.ages();
      } else if (is("school")) {
        a = c -> c.school;
      } else if (is("house")) {
        a = c -> c.mates;
      } else if (is("wishes")) {
        a = c -> c.wishes.size();
      } else {
        throw bad(1);
      }
      i++;
      return a;
    }
  }

  // ---- state

  byte[] tape = new byte[0];
  Rules rules = new Rules();
  int fault;
  int place = NONE;
  List<Act> acts = new ArrayList<>();
  int as = NONE;
  String label = "";
  Result result;

  int feed(int... numbers) {
    if (tape.length + 20 > 1000) {
      return NONE;
    }
    byte[] more = Arrays.copyOf(tape, tape.length + 20);
    for (int i = 0; i < 20; i++) {
      more[tape.length + i] = (byte) (numbers[i / 4] >> 24 - i % 4 * 8);
    }
    tape = more;
    return tape.length;
  }

  boolean end(int n) {
    if (n < 0 || n > tape.length) {
      return false;
    }
    tape = Arrays.copyOf(tape, n);
    return true;
  }

  int rules() {
    byte[] text = tape;
    tape = new byte[0];
    try {
      Reader reader = new Reader(text);
      int n = reader.all();
      rules = reader.rules;
      fault = 0;
      place = NONE;
      acts.clear();
      as = NONE;
      result = null;
      return n;
    } catch (Fault f) {
      fault = f.number;
      place = f.place;
      return -1;
    }
  }

  int fault(int what) {
    return what == 0 ? fault : what == 1 ? place : NONE;
  }

  static int letter(String s, int k) {
    return k >= 0 && k < s.length() ? s.charAt(k) : NONE;
  }

  int name(boolean mark, int i, int k) {
    if (i < 0 || i >= (mark ? rules.marks.size() : rules.kinds.size())) {
      return NONE;
    }
    return letter(mark ? rules.marks.get(i) : rules.kinds.get(i).name, k);
  }

  boolean noKind(int kind) {
    return kind < 0 || kind >= rules.kinds.size();
  }

  int marked(int kind, int mark) {
    if (noKind(kind) || mark < 0 || mark >= rules.marks.size()) {
      return NONE;
    }
    return rules.kinds.get(kind).marks.contains(rules.marks.get(mark)) ? 1 : 0;
  }

  int report(int code, int age, int school, int house, int day) {
    String text = new String(tape, java.nio.charset.StandardCharsets.ISO_8859_1);
    tape = new byte[0];
    if (!text.matches("[ \n]*([a-z]{1,8}([ \n]+[a-z]{1,8}){0,2})?[ \n]*")) {
      return NONE;
    }
    List<String> wishes = new ArrayList<>();
    for (String w : text.split("[ \n]+")) {
      if (OWN.contains(w)) {
        return NONE;
      }
      if (!w.isEmpty()) {
        wishes.add(w);
      }
    }
    if (code < 0 || code > 9999 || age < 0 || age > 17 || school < 0 || school > 99 || house < 0 || house > 999
        || day < 1 || day > 24 || acts.size() == 200
        || acts.stream().filter(a -> a.what.equals("report")).count() == 80) {
      return NONE;
    }
    acts.add(new Act("report", new int[] {code, age, school, house, day}, wishes));
    return acts.size();
  }

  int gifts(int kind, int day, int n) {
    if (noKind(kind) || day < 1 || day > 24 || n < 1 || n > 99 || acts.size() == 200) {
      return NONE;
    }
    acts.add(new Act("gifts", new int[] {kind, day, n}, List.of()));
    return acts.size();
  }

  int call(int kind, int day) {
    if (noKind(kind) || day < 1 || day > 24 || acts.size() == 200) {
      return NONE;
    }
    acts.add(new Act("call", new int[] {kind, day}, List.of()));
    return acts.size();
  }

  int annul(int act) {
    if (act < 1 || act > acts.size() || acts.size() == 200 || acts.get(act - 1).what.equals("void")) {
      return NONE;
    }
    for (Act a : acts) {
      if (a.what.equals("void") && a.detail[0] == act) {
        return NONE;
      }
    }
    acts.add(new Act("void", new int[] {act}, List.of()));
    return acts.size();
  }

  boolean as(int act) {
    if (act < -1 || act > acts.size()) {
      return false;
    }
    as = act;
    return true;
  }

  int now() {
    return as == NONE ? acts.size() : as;
  }

  /** The acts that are known, by their numbers. */
  TreeMap<Integer, Act> known() {
    TreeMap<Integer, Act> found = new TreeMap<>();
    for (int i = 1; i <= now(); i++) {
      found.put(i, acts.get(i - 1));
    }
    for (int i = 1; i <= now(); i++) {
      if (acts.get(i - 1).what.equals("void")) {
        found.remove(acts.get(i - 1).detail[0]);
      }
    }
    return found;
  }

  private Map<Integer, Integer> childOfAct = new HashMap<>();

  List<Child> children() {
    childOfAct = new HashMap<>();
    LinkedHashMap<String, Child> found = new LinkedHashMap<>();
    for (Map.Entry<Integer, Act> e : known().entrySet()) {
      Act a = e.getValue();
      if (!a.what.equals("report")) {
        continue;
      }
      String key = a.detail[0] == 0 ? "act " + e.getKey() : "code " + a.detail[0];
      Child c = found.computeIfAbsent(key, k -> new Child());
      if (c.reports == 0) {
        c.number = found.size() - 1;
      }
      c.reports++;
      c.code = a.detail[0];
      c.age = a.detail[1];
      c.agesTold.add(c.age);
      c.school = a.detail[2];
      c.house = a.detail[3];
      c.day = a.detail[4];
      for (String w : a.wishes) {
        if (c.wishes.size() < 4) {
          c.wishes.add(w);
        }
      }
      childOfAct.put(e.getKey(), c.number < 40 ? c.number : NONE);
    }
    List<Child> list = new ArrayList<>(found.values());
    if (list.size() > 40) {
      list = list.subList(0, 40);
    }
    for (Child c : list) {
      c.mates = 0;
      for (Child d : list) {
        if (c == d || c.house != 0 && c.house == d.house) {
          c.mates++;
        }
      }
    }
    return list;
  }

  int all(int what) {
    switch (what) {
      case 0: return rules.kinds.size();
      case 1: return rules.marks.size();
      case 2: return rules.others;
      case 3: return acts.size();
      case 4: return now();
      case 5: return children().size();
      case 6: return doubt();
      case 7: return rules.even;
      default: return NONE;
    }
  }

  int doubt() {
    List<Child> list = children();
    int n = 0;
    for (Child a : list) {
      for (Child b : list) {
        if (a.number < b.number && (a.code == 0 || b.code == 0) && a.house != 0 && a.house == b.house
            && a.school == b.school && a.age == b.age) {
          n++;
        }
      }
    }
    return n;
  }

  int child(int act) {
    children();
    return childOfAct.getOrDefault(act, NONE);
  }

  Child one(int child) {
    List<Child> list = children();
    return child < 0 || child >= list.size() ? null : list.get(child);
  }

  int due(Child c) {
    int n = 1;
    for (Due d : rules.dues) {
      if (d.test.holds(c)) {
        n = Math.max(0, Math.min(3, d.sum.of(c)));
      }
    }
    return n;
  }

  int of(int child, int what) {
    Child c = one(child);
    if (c == null) {
      return NONE;
    }
    switch (what) {
      case 0: return c.code;
      case 1: return c.age;
      case 2: return c.ages();
      case 3: return c.school;
      case 4: return c.house;
      case 5: return c.day;
      case 6: return c.wishes.size();
      case 7: return c.mates;
      case 8: return c.reports;
      case 9: return due(c);
      default: return NONE;
    }
  }

  int wish(int child, int i, int k) {
    Child c = one(child);
    if (c == null || i < 0 || i >= c.wishes.size()) {
      return NONE;
    }
    return letter(new ArrayList<>(c.wishes).get(i), k);
  }

  boolean mayGet(Child c, int kind) {
    for (Never n : rules.nevers) {
      if (n.which.has(rules.kinds.get(kind)) && n.test.holds(c)) {
        return false;
      }
    }
    for (Act a : known().values()) {
      if (a.what.equals("call") && a.detail[0] == kind && a.detail[1] <= c.day) {
        return false;
      }
    }
    return true;
  }

  int may(int child, int kind) {
    Child c = one(child);
    return c == null || noKind(kind) ? NONE : mayGet(c, kind) ? 1 : 0;
  }

  int pointsOf(Child c, int kind) {
    int n = 0;
    for (Likes l : rules.likes) {
      if (l.which.has(rules.kinds.get(kind)) && l.test.holds(c)) {
        n += l.sum.of(c);
      }
    }
    return n;
  }

  int points(int child, int kind) {
    Child c = one(child);
    return c == null || noKind(kind) ? -2000000000 : pointsOf(c, kind);
  }

  // ---- the giving

  static final class Result {
    List<Child> children;
    int[] due;
    boolean[][] may;
    int[] dealt;
    int[] bag;
    int[] left;
    int points;
    int spent = NONE;
  }

  /** Gifts by kind and day, as known. */
  int[][] stock() {
    int[][] stock = new int[10][25];
    for (Act a : known().values()) {
      if (a.what.equals("gifts")) {
        stock[a.detail[0]][a.detail[1]] += a.detail[2];
      }
    }
    return stock;
  }

  int give() {
    result = new Result();
    result.children = children();
    int n = result.children.size();
    result.due = new int[n];
    result.may = new boolean[n][rules.kinds.size()];
    int[][] stock = stock();
    result.bag = best(result.children, stock);
    result.dealt = new int[n];
    result.left = new int[rules.kinds.size()];
    for (int k = 0; k < result.left.length; k++) {
      result.left[k] = Arrays.stream(stock[k]).sum();
    }
    int sum = 0;
    for (Child c : result.children) {
      result.due[c.number] = due(c);
      for (int k = 0; k < rules.kinds.size(); k++) {
        result.may[c.number][k] = mayGet(c, k);
        if ((result.bag[c.number] >> k & 1) != 0) {
          result.dealt[c.number]++;
          result.left[k]--;
          result.points += pointsOf(c, k);
          sum++;
        }
      }
    }
    return sum;
  }

  /** One number tells how good a gift is: that it is given, then points, then how early the pair stands. */
  BigInteger weight(Child c, int kind) {
    return BigInteger.ONE.shiftLeft(460).add(BigInteger.valueOf(pointsOf(c, kind)).shiftLeft(410))
        .add(BigInteger.ONE.shiftLeft(399 - c.number * 10 - kind));
  }

  /** The best giving of a stock to some children: by number, the bits of what each one gets. */
  int[] best(List<Child> list, int[][] stock) {
    Net net = new Net();
    int kinds = rules.kinds.size();
    Map<Integer, int[]> pairs = new TreeMap<>();
    for (Child c : list) {
      int node = 2 + c.number;
      net.add(0, node, due(c), BigInteger.ZERO);
      for (int k = 0; k < kinds; k++) {
        if (mayGet(c, k)) {
          int pair = 100 + c.number * 10 + k;
          int arc = net.add(node, pair, 1, weight(c, k));
          pairs.put(arc, new int[] {c.number, k});
          for (int day = 1; day <= c.day; day++) {
            if (stock[k][day] > 0) {
              net.add(pair, 1000 + k * 25 + day, 1, BigInteger.ZERO);
            }
          }
        }
      }
    }
    for (int k = 0; k < kinds; k++) {
      for (int day = 1; day <= 24; day++) {
        if (stock[k][day] > 0) {
          net.add(1000 + k * 25 + day, 1, stock[k][day], BigInteger.ZERO);
        }
      }
    }
    net.run();
    int[] bag = new int[40];
    pairs.forEach((arc, pair) -> {
      if (net.room.get(arc) == 0) {
        bag[pair[0]] |= 1 << pair[1];
      }
    });
    return bag;
  }

  /** Heaviest flow from node 0 to node 1, path by path. */
  static final class Net {
    final List<Integer> to = new ArrayList<>();
    final List<Integer> room = new ArrayList<>();
    final List<BigInteger> weight = new ArrayList<>();
    final List<List<Integer>> arcs = new ArrayList<>();

    Net() {
      for (int i = 0; i < 1300; i++) {
        arcs.add(new ArrayList<>());
      }
    }

    int add(int a, int b, int r, BigInteger w) {
      int arc = to.size();
      to.add(b);
      room.add(r);
      weight.add(w);
      arcs.get(a).add(arc);
      to.add(a);
      room.add(0);
      weight.add(w.negate());
      arcs.get(b).add(arc + 1);
      return arc;
    }

    void run() {
      while (true) {
        BigInteger[] most = new BigInteger[1300];
        int[] by = new int[1300];
        boolean[] waits = new boolean[1300];
        most[0] = BigInteger.ZERO;
        ArrayDeque<Integer> queue = new ArrayDeque<>(List.of(0));
        while (!queue.isEmpty()) {
          int a = queue.poll();
          waits[a] = false;
          for (int arc : arcs.get(a)) {
            int b = to.get(arc);
            if (room.get(arc) > 0) {
              BigInteger w = most[a].add(weight.get(arc));
              if (most[b] == null || w.compareTo(most[b]) > 0) {
                most[b] = w;
                by[b] = arc;
                if (!waits[b]) {
                  waits[b] = true;
                  queue.add(b);
                }
              }
            }
          }
        }
        if (most[1] == null || most[1].signum() <= 0) {
          return;
        }
        for (int b = 1; b != 0; b = to.get(by[b] ^ 1)) {
          room.set(by[b], room.get(by[b]) - 1);
          room.set(by[b] ^ 1, room.get(by[b] ^ 1) + 1);
        }
      }
    }
  }

  int given(int what) {
    if (result == null) {
      return NONE;
    }
    int n = 0;
    switch (what) {
      case 0: return result.points;
      case 1:
        for (Child c : result.children) {
          n += result.dealt[c.number] == result.due[c.number] ? 1 : 0;
        }
        return n;
      case 2: return lacks(Integer.MIN_VALUE, Integer.MAX_VALUE);
      case 3: return Arrays.stream(result.left).sum();
      default: return NONE;
    }
  }

  boolean noChild(int child) {
    return result == null || child < 0 || child >= result.children.size();
  }

  int gets(int child) {
    return noChild(child) ? NONE : result.bag[child];
  }

  int left(int kind) {
    return result == null || noKind(kind) ? NONE : result.left[kind];
  }

  int blind() {
    List<Child> list = children();
    int[][] rest = stock();
    int sum = 0;
    for (int day = 1; day <= 24; day++) {
      List<Child> some = new ArrayList<>();
      for (Child c : list) {
        if (c.day == day) {
          some.add(c);
        }
      }
      int[] bag = best(some, rest);
      for (int b : bag) {
        for (int k = 0; k < 10; k++) {
          if ((b >> k & 1) != 0) {
            sum++;
            int from = 1;
            while (rest[k][from] == 0) {
              from++;
            }
            rest[k][from]--;
          }
        }
      }
    }
    return sum;
  }

  int lacks(int from, int to) {
    if (result == null) {
      return NONE;
    }
    int n = 0;
    for (Child c : result.children) {
      if (c.age >= from && c.age <= to) {
        n += result.due[c.number] - result.dealt[c.number];
      }
    }
    return n;
  }

  // ---- coins

  int worth(int bag) {
    int n = 0;
    for (int k = 0; k < rules.kinds.size(); k++) {
      n += (bag >> k & 1) != 0 ? rules.kinds.get(k).worth : 0;
    }
    return n;
  }

  int greatest(Child c) {
    int n = 0;
    for (Child d : result.children) {
      if (d == c || c.house != 0 && d.house == c.house) {
        n = Math.max(n, worth(result.bag[d.number]));
      }
    }
    return n;
  }

  boolean isRight(Child c) {
    int bag = result.bag[c.number];
    return Integer.bitCount(bag) >= result.due[c.number] && worth(bag) >= greatest(c) - rules.even;
  }

  /** Price and set; null if it can't be made right. */
  int[] offer(Child c) {
    int bag = result.bag[c.number];
    int most = greatest(c);
    int[] best = null;
    int bestOrder = 0;
    for (int set = 0; set < 1 << rules.kinds.size(); set++) {
      int price = 0;
      int order = 0;
      boolean can = (set & bag) == 0;
      for (int k = 0; k < rules.kinds.size(); k++) {
        if ((set >> k & 1) != 0) {
          price += rules.kinds.get(k).price;
          order |= 1 << 20 - k;
          can &= rules.kinds.get(k).price > 0 && result.may[c.number][k];
        }
      }
      int worth = worth(bag | set);
      can &= Integer.bitCount(bag | set) >= result.due[c.number];
      can &= most == 0 || worth >= most - rules.even && worth <= most;
      if (!can) {
        continue;
      }
      int kinds = Integer.bitCount(set);
      if (best == null || price < best[0] || price == best[0] && (kinds < Integer.bitCount(best[1])
          || kinds == Integer.bitCount(best[1]) && order > bestOrder)) {
        best = new int[] {price, set};
        bestOrder = order;
      }
    }
    return best;
  }

  int price(int child) {
    if (noChild(child)) {
      return NONE;
    }
    Child c = result.children.get(child);
    if (isRight(c)) {
      return 0;
    }
    int[] offer = offer(c);
    return offer == null ? NONE : offer[0];
  }

  int spend(int coins) {
    if (result == null || result.spent != NONE || coins < 0 || coins > 100000) {
      return NONE;
    }
    List<int[]> offers = new ArrayList<>();
    for (Child c : result.children) {
      int[] offer = isRight(c) ? null : offer(c);
      if (offer != null) {
        offers.add(new int[] {offer[0], c.number, offer[1]});
      }
    }
    offers.sort(Comparator.<int[]>comparingInt(o -> o[0]).thenComparingInt(o -> o[1]));
    result.spent = 0;
    int n = 0;
    for (int[] o : offers) {
      if (result.spent + o[0] > coins) {
        break;
      }
      result.spent += o[0];
      result.bag[o[1]] |= o[2];
      n++;
    }
    return n;
  }

  int spent() {
    return result == null ? NONE : result.spent;
  }

  int right() {
    return result == null ? NONE : (int) result.children.stream().filter(this::isRight).count();
  }

  // ---- bags

  int far(int child) {
    int n = 0;
    for (int k = 0; k < rules.kinds.size(); k++) {
      if ((result.bag[child] >> k & 1) != 0) {
        n = Math.max(n, rules.kinds.get(k).shelf);
      }
    }
    return n;
  }

  List<Integer> order() {
    List<Integer> list = new ArrayList<>();
    for (Child c : result.children) {
      if (result.bag[c.number] != 0) {
        list.add(c.number);
      }
    }
    list.sort(Comparator.comparingInt((Integer i) -> -far(i)).thenComparingInt(i -> i));
    return list;
  }

  int walks(int b) {
    if (result == null || b < 1 || b > 40) {
      return NONE;
    }
    int n = 0;
    List<Integer> order = order();
    for (int i = 0; i < order.size(); i++) {
      n += i % b == 0 ? 2 * far(order.get(i)) : 0;
    }
    return n;
  }

  int bag(int k) {
    return result == null || k < 0 || k >= order().size() ? NONE : order().get(k);
  }

  int queue(int day, int w, int what) {
    if (result == null || day < 1 || day > 24 || w < 1 || w > 9 || what < 0 || what > 2) {
      return NONE;
    }
    LinkedHashMap<String, Integer> houses = new LinkedHashMap<>();
    for (Child c : result.children) {
      if (c.day == day && result.bag[c.number] != 0) {
        houses.merge(c.house == 0 ? "child " + c.number : "house " + c.house, 1, Integer::sum);
      }
    }
    List<Integer> bags = new ArrayList<>(houses.values());
    Collections.sort(bags);
    int[] free = new int[w];
    int waits = 0;
    int last = 0;
    for (int n : bags) {
      Arrays.sort(free);
      waits += free[0];
      free[0] += 2 + n;
      last = Math.max(last, free[0]);
    }
    return what == 0 ? bags.size() : what == 1 ? waits : last;
  }

  int label(int child) {
    if (noChild(child) || result.bag[child] == 0) {
      return NONE;
    }
    List<String> names = new ArrayList<>();
    for (int k = 0; k < rules.kinds.size(); k++) {
      if ((result.bag[child] >> k & 1) != 0) {
        names.add(rules.kinds.get(k).name);
      }
    }
    label = String.join(", ", names) + ".";
    return label.length();
  }

  int at(int k) {
    return letter(label, k);
  }
}
