import java.lang.reflect.InvocationTargetException;
import java.lang.reflect.Method;
import java.lang.reflect.Modifier;
import java.nio.file.Files;
import java.nio.file.Path;
import java.util.List;

/**
 * The class keeps to LANGUAGE.md, rule by rule, as far as its tree shows it; each rule is tried on
 * small programs that break it, so that it is known to be looked at. That nothing throws (rule 7)
 * is tried by every call with all edges together, in halls that are empty, filled and gone back.
 */
public final class MotesLanguageTest {
  private static final String NAME = "MotesHaveASeat";
  private static final Path MAIN = Path.of("src/main/java/MotesHaveASeat.java");
  private static final Check CHECK = new Check();

  public static void main(String[] args) throws Exception {
    String source = Files.readString(MAIN);
    for (String complaint : Rules.complaints(NAME, source)) {
      CHECK.that("LANGUAGE.md, rule " + complaint, false);
    }
    // Stronger than rule 12: all calls live in one room, so what is made is made at the start.
    for (String maker : Rules.makers(NAME, source)) {
      CHECK.that("a call makes nothing, but " + maker, false);
    }
    rule1();
    rule2();
    rules3To5();
    rule6();
    rule7();
    rules8To10();
    rule11();
    allowed();
    CHECK.end();
  }

  private static List<String> complaints(String body) throws Exception {
    return Rules.complaints("T", "import java.util.*;\npublic final class T {\n" + body + "\n}\n")
        .stream().filter(c -> !c.contains("import java.util.*")).toList();
  }

  /** The body draws complaints of this rule, and of no other. */
  private static void breaks(int rule, String body) throws Exception {
    List<String> found = complaints(body);
    CHECK.that("breaks rule " + rule + ", but " + found + ": " + body, !found.isEmpty()
        && found.stream().allMatch(c -> c.startsWith(rule + ": ")));
  }

  private static void keeps(String body) throws Exception {
    List<String> found = complaints(body);
    CHECK.that("keeps to all rules, but " + found + ": " + body, found.isEmpty());
  }

  private static void rule1() throws Exception {
    breaks(1, "int open;");
    breaks(1, "protected int f() { return 0; }");
    breaks(1, "public int f() { return 0; } private int f(int n) { return n; }");
    breaks(1, "public static final class In { }");
    CHECK.that("a class that isn't final", Rules.complaints("T", "public class T { }").stream()
        .anyMatch(c -> c.startsWith("1: ")));
    CHECK.that("a package", Rules.complaints("T", "package p; public final class T { }").stream()
        .anyMatch(c -> c.startsWith("0: ")));
    CHECK.that("a strange import",
        Rules.complaints("T", "import java.util.Map; public final class T { }").stream()
            .anyMatch(c -> c.startsWith("4: ")));
  }

  private static void rule2() throws Exception {
    String face = "private interface F { int f(int n); } ";
    breaks(2, "private final class In { }");
    breaks(2, face + "private F g() { return n -> n; }");
    breaks(2, face + "private F g() { return Math::abs; }");
    breaks(2, face + "private F g() { return new F() { public int f(int n) { return n; } }; }");
    breaks(2, "private int g() { class Local { } return 0; }");
  }

  private static void rules3To5() throws Exception {
    breaks(3, "private int[][][] deep;");
    breaks(3, "private String[] texts;");
    breaks(3, "private Object any;");
    breaks(3, "private Long box() { return null; }");
    breaks(4, "private int f(String s) { return s.hashCode(); }");
    breaks(4, "private int f(String s) { return s.indexOf(s); }");
    breaks(4, "private int f(int n) { return Math.addExact(n, n); }");
    breaks(4, "private double f() { return Math.random(); }");
    breaks(4, "private double f(double d) { return Math.abs(d); }");
    breaks(4, "private void f(int[] row) { Arrays.sort(row); }");
    breaks(4, "private long f() { return System.nanoTime(); }");
    breaks(4, "private void f() { System.out.println(); }");
    breaks(4, "private boolean f() { return \"\\u00e9\".isEmpty(); }");
    breaks(5, "private static int state;");
    breaks(5, "private static final int[] ROW = new int[4];");
    breaks(5, "private static final StringBuilder TEXT = new StringBuilder();");
    breaks(5, "static { }");
  }

  private static void rule6() throws Exception {
    breaks(6, "private int f(int n) { try { return n; } finally { n++; } }");
    breaks(6, "private int f(int n) { assert n > 0; return n; }");
    breaks(6, "private int f(int n) { synchronized (this) { return n; } }");
    breaks(6, "private boolean f(String s, String t) { return s == t; }");
    breaks(6, "private boolean f(Integer s, Integer t) { return s != t; }");
    breaks(6, "private static final class In { public int hashCode() { return 0; } }");
    List<String> thrown = complaints("private int f() { throw new IllegalStateException(); }");
    CHECK.that("throw", thrown.stream().anyMatch(c -> c.startsWith("6: ")));
    List<String> cast = complaints(
        "private Integer f(Comparable<Integer> c) { return (Integer) c; }");
    CHECK.that("a cast", cast.stream().anyMatch(c -> c.startsWith("6: ")));
  }

  private static final long[] EDGES = {Integer.MIN_VALUE, -1, 0, 1, 5, 9, 10, 24, 40, 66, 999,
      Integer.MAX_VALUE};

  private static void rule7() throws Exception {
    for (Method call : MotesHaveASeat.class.getDeclaredMethods()) {
      if (Modifier.isPublic(call.getModifiers())) {
        neverThrows(call, new MotesHaveASeat());
        neverThrows(call, filled());
        neverThrows(call, goneBack());
      }
    }
  }

  /** Ten motes of all kinds, and shelves with rows of each sort, a mote, and nothing. */
  private static MotesHaveASeat filled() {
    MotesHaveASeat x = new MotesHaveASeat();
    x.side(7);
    for (int m = 0; m < 10; m++) {
      x.mote(m % 6, m, 10 * (m % 7) + m / 2);
    }
    for (int sort = 0; sort < 5; sort++) {
      x.row(sort, sort, sort == 4 ? 0 : 40);
      x.set(sort, 0, Long.MIN_VALUE);
    }
    x.show(5, 9);
    while (x.status(9) < 250) {
      x.feed(';');
    }
    return x;
  }

  /** Back from ten motes to none, so that no shelf may hold a mote any more. */
  private static MotesHaveASeat goneBack() {
    MotesHaveASeat x = new MotesHaveASeat();
    x.image();
    x.mote(4, 9, 55);
    for (int s = 0; s < 8; s++) {
      x.show(s, 0);
    }
    x.back();
    return x;
  }

  private static void neverThrows(Method call, MotesHaveASeat x) throws Exception {
    Class<?>[] types = call.getParameterTypes();
    long together = Math.round(Math.pow(EDGES.length, types.length));
    String thrown = "";
    for (long number = 0; number < together && thrown.isEmpty(); number++) {
      Object[] given = new Object[types.length];
      long rest = number;
      for (int i = 0; i < types.length; i++) {
        given[i] = edge(types[i], EDGES[(int) (rest % EDGES.length)]);
        rest /= EDGES.length;
      }
      try {
        call.invoke(x, given);
      } catch (InvocationTargetException e) {
        thrown = List.of(given) + " throws " + e.getCause();
      }
    }
    CHECK.that(call.getName() + thrown, thrown.isEmpty());
  }

  private static Object edge(Class<?> type, long v) {
    if (type == boolean.class) {
      return v > 0;
    }
    return type == long.class ? (Object) v : (Object) (int) v;
  }

  private static void rules8To10() throws Exception {
    breaks(8, "private int f(int n) { return n < 1 ? 0 : f(n - 1); }");
    breaks(8, "private int f(int n) { return g(n); } private int g(int n) { return f(n); }");
    breaks(9, "private int f(int n) { while (true) { if (n > 0) { return n; } } }");
    breaks(9, "private int f(int n) { for (;;) { if (n > 0) { return n; } } }");
    breaks(10, "private int f(String s, int n) { return (s + n).length(); }");
    breaks(10, "private int f(String s, int n) { s += n; return s.length(); }");
  }

  private static void rule11() throws Exception {
    breaks(11, "private int f(int a, int b, int c, int d, int e, int g, int h, int i)"
        + " { return 0; }");
    breaks(11, "private int f(int n) {\n" + "n++;\n".repeat(70) + "return n; }");
    StringBuilder fields = new StringBuilder();
    StringBuilder inside = new StringBuilder();
    StringBuilder chain = new StringBuilder("private int f8() { return 0; }");
    for (int i = 0; i < 21; i++) {
      fields.append("private int n").append(i).append(";");
      inside.append("private static final class C").append(i).append(" { }");
    }
    for (int i = 0; i < 8; i++) {
      chain.append("private int f" + i + "() { return f" + (i + 1) + "(); }");
    }
    breaks(11, fields.toString());
    breaks(11, inside.toString());
    breaks(11, chain.toString());
  }

  private static void allowed() throws Exception {
    keeps("public static final int NONE = -1; private static final int[] ROW = {1, 2};");
    keeps("private static final class In { int n; In next; }"
        + " private final In[] all = new In[3]; private int[][] rows;");
    keeps("private enum E { A, B; int f() { return 1; } }"
        + " private static final E[] ALL = E.values();");
    keeps("private final ArrayList<Integer> list = new ArrayList<>();"
        + " private int f() { list.add(3); return list.isEmpty() ? 0 : list.get(0); }");
    keeps("private String f(String s, int n) {"
        + " return new StringBuilder().append(s).append(n).append('x').toString(); }");
    keeps("private int f(int[] a) { return Math.max(a.clone().length, Integer.bitCount(3)); }");
    keeps("private static int f(int n, int depth) { return depth > 9 ? n : f(n, depth + 1); }");
    keeps("private long f(int n) { return (long) n + (char) n; }");
    CHECK.that("what is made is seen", !Rules.makers("T",
        "public final class T { private int[] f() { return new int[3]; } }").isEmpty());
    CHECK.that("what a constructor makes is fine", Rules.makers("T",
        "public final class T { private int[] f; public T() { f = new int[3]; } }").isEmpty());
  }
}
