import java.nio.file.Files;
import java.nio.file.Path;
import java.util.List;

/** The class keeps to LANGUAGE.md; and Rules, by which that is seen, sees what does not. */
public final class LanguageTest {
  private static final Check check = new Check();
  private static final Path SOURCE = Path.of("src/main/java/DoeRoe.java");

  public static void main(String[] args) throws Exception {
    List<String> faults = Rules.faults(Files.readString(SOURCE));
    check.isTrue("the class keeps to the rules: " + faults, faults.isEmpty());
    lines();
    rulesSeeThem();
    check.end("LanguageTest");
  }

  private static void lines() throws Exception {
    List<String> lines = Files.readAllLines(SOURCE);
    for (int i = 0; i < lines.size(); i++) {
      String line = lines.get(i);
      check.isTrue("line " + (i + 1) + " is plain", line.chars().allMatch(c -> c < 127));
      check.isTrue("line " + (i + 1) + " has 100 signs at most", line.length() <= 100);
    }
  }

  private static void sees(int rule, String members) throws Exception {
    seesIn(rule, "public final class DoeRoe { public int read() { return 1; } " + members + " }");
  }

  private static void seesIn(int rule, String source) throws Exception {
    List<String> faults = Rules.faults(source);
    boolean seen = false;
    for (String f : faults) {
      seen |= f.startsWith(rule + ":");
    }
    check.isTrue("a fault of rule " + rule + " is seen in " + source + ": " + faults,
        rule == 0 ? faults.isEmpty() : seen);
  }

  private static void rulesSeeThem() throws Exception {
    sees(0, "private static int half(int x) { return x / 2; }");
    theFace();
    classesAndTypes();
    theLibrary();
    neverThere();
    boundsAndLoops();
    howMuch();
  }

  private static void theFace() throws Exception {
    seesIn(1, "class DoeRoe { }");
    seesIn(1, "public class DoeRoe { }");
    seesIn(1, "package p; public final class DoeRoe { }");
    seesIn(1, "public final class DoeRoe { } class Other { }");
    sees(1, "int seen() { return 1; }");
    sees(1, "protected int seen() { return 1; }");
    sees(1, "int seen;");
    sees(1, "public static class Inside { }");
    sees(1, "private int read(int x) { return x; }");
    sees(1, "private static class Inside { private int read() { return 1; } }");
  }

  private static void classesAndTypes() throws Exception {
    sees(2, "private class Inside { }");
    sees(2, "private int a() { class Inside { } return 1; }");
    sees(2, "private int a() { Comparable<Integer> c = x -> 1; return 1; }");
    sees(2, "private int a() { Runnable r = this::read; return 1; }");
    sees(2, "private static class In { } private static In a() { return new In() { }; }");
    sees(3, "private Object o;");
    sees(3, "private String[] texts;");
    sees(3, "private int[][][] cube;");
    sees(3, "private Long number;");
    sees(0, "private int[][] square; private long[] row; private String text;");
    sees(3, "private Object a() { return null; }");
    sees(3, "private int a(Object o) { return 1; }");
  }

  private static void theLibrary() throws Exception {
    seesIn(4, "import java.util.HashMap; public final class DoeRoe { }");
    sees(4, "private static long a() { return System.nanoTime(); }");
    sees(4, "private static int a(int x) { return Math.addExact(x, x); }");
    sees(4, "private static double a(double x) { return Math.sqrt(x); }");
    sees(4, "private static int a(String s) { return s.trim().length(); }");
    sees(4, "private static int a() { return Integer.MAX_VALUE; }");
    sees(4, "@Deprecated private static int a() { return 1; }");
    sees(4, "private static final String A = \"" + (char) 233 + "\";");
    sees(0, "private static int a(int x) { return Math.max(x, Integer.bitCount(x)); }");
    sees(5, "private static int a = 1;");
    sees(5, "private static final StringBuilder A = new StringBuilder();");
    sees(5, "private static final int A; static { A = 1; }");
    sees(0, "private static final int[] A = {1, 2};");
  }

  private static void neverThere() throws Exception {
    sees(6, "private static int a() { throw new RuntimeException(); }");
    sees(6, "private static int a() { try { return 1; } finally { } }");
    sees(6, "private int a() { synchronized (this) { return 1; } }");
    sees(6, "private synchronized int a() { return 1; }");
    sees(6, "private static int a(int x) { assert x > 0; return 1; }");
    sees(6, "private static int a() throws Exception { return 1; }");
    sees(6, "private static boolean a(String s, String t) { return s == t; }");
    sees(6, "private static class In { } private static class On extends In { } "
        + "private static On a(In i) { return (On) i; }");
    sees(6, "private static class In { public String toString() { return \"\"; } }");
    sees(10, "private static String a(String s) { return s + 1; }");
    sees(10, "private static String a(String s) { s += 1; return s; }");
    sees(10, "private static int a(String s) { switch (s) { default: return 1; } }");
  }

  private static void boundsAndLoops() throws Exception {
    sees(7, "private static int a(int[] r, int i) { return r[i]; }");
    sees(7, "private static void a(int[] r, int i) { r[i] = 1; }");
    sees(7, "private static int a(int x, int y) { return x / y; }");
    sees(7, "private static int a(int x, int y) { return x % y; }");
    sees(7, "private static int a(int x) { return x / 0; }");
    sees(7, "private static void a(int x, int y) { x /= y; }");
    sees(0, "private static int a(int x, int y) { return y != 0 ? x / y : 0; }");
    sees(0, "private static int a(int[] r, int i) { return i >= 0 && i < r.length ? r[i] : 0; }");
    sees(9, "private static void a() { for (;;) { } }");
    sees(9, "private static void a() { while (true) { } }");
    sees(9, "private static void a() { do { } while (true); }");
  }

  private static void howMuch() throws Exception {
    sees(11, "private static int a(int b, int c, int d, int e, int f, int g, int h, int i) "
        + "{ return 1; }");
    sees(11, "private static int a() {" + "\n".repeat(60) + "return 1; }");
    sees(0, "private static int a() {" + "\n".repeat(50) + "return 1; }");
    StringBuilder fields = new StringBuilder();
    StringBuilder classes = new StringBuilder();
    for (int k = 0; k < 21; k++) {
      fields.append("private int a").append(k).append("; ");
      classes.append("private static class A").append(k).append(" { } ");
    }
    sees(11, fields.toString());
    sees(11, classes.toString());
    sees(12, "private static int[] a() { return new int[1]; }");
    sees(12, "private static class In { } private static In a() { return new In(); }");
    sees(12, "private static class In { In() { a(); } void a() { } }");
    sees(12, "private static class In { In on; In() { on = this; } }");
    sees(0, "private static class In { int[] row; In() { row = new int[3]; } }");
  }
}
