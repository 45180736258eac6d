/** Promises 4 to 9: objects, their symbols and their data. */
public final class ObjectTest {
  public static void main(String[] args) {
    symbols();
    used();
    names();
    wrongNumbers();
    dataCounts();
    failedUnitsLeaveNothing();
    Trial.finish("ObjectTest");
  }

  private static void all(int o, Trial t, String wanted) {
    StringBuilder got = new StringBuilder();
    int n = t.units.count(o, 0);
    for (int s = 0; s < n; s++) {
      got.append(t.nameOf(o, s)).append(':').append(t.units.symbol(o, s)).append(' ');
    }
    Trial.due("symbols of object " + o, got.toString(), wanted);
    Trial.due("symbol behind the last", t.units.symbol(o, n), -1);
  }

  private static void symbolsOf(String text, String wanted) {
    for (int level = 0; level <= 3; level++) {
      Trial t = new Trial();
      Trial.due("compile of " + text, t.compile(text, level), 1);
      all(1, t, wanted);
    }
  }

  private static void symbols() {
    symbolsOf("", "");
    symbolsOf("int a; int *b[3]; extern int c; extern int d[]; int e = 1;", "a:5 b:5 c:1 d:1 e:5 ");
    symbolsOf("int f(); void g(int x) { } extern int h() { return 0; } extern int k();", "f:2 g:6 h:6 k:2 ");
    symbolsOf("static int a; static int f(); static int g() { return a; } int b;", "b:5 ");
    symbolsOf("extern int a; int f(); int b; int a; int f() { return 0; } extern int b;", "a:5 f:6 b:5 ");
    symbolsOf("int b, a; extern int c, d;", "b:5 a:5 c:1 d:1 ");
  }

  private static void used() {
    symbolsOf("extern int a; extern int b; int f() { return a; }", "a:9 b:1 f:6 ");
    symbolsOf("extern int a; int f() { return a; } int a;", "a:5 f:6 ");
    symbolsOf("int g(); int h(); int f() { return g(); }", "g:10 h:2 f:6 ");
    symbolsOf("int g(); int f() { return g(); } int g() { return 0; }", "g:6 f:6 ");
    symbolsOf("extern int a; extern int b[]; int *p = &a; int *q[] = { 0, b + 1 };", "a:9 b:9 p:5 q:5 ");
    symbolsOf("extern int a; int f() { int a; return a; }", "a:1 f:6 ");
    symbolsOf("extern int a; int f() { &a; if (0) a = 1; return 0; }", "a:9 f:6 ");
    symbolsOf("int g(int x); extern int y; void f() { int a = g(1), b[] = { y }; }", "g:10 y:9 f:6 ");
    symbolsOf("void put(int); int f() { put(1); return 0; }", "put:10 f:6 ");
  }

  private static void names() {
    Trial t = new Trial();
    t.compile("int abcdefghijklmnopqrstuvwx, _9; static int q; int Z();", 0);
    Trial.due("name", t.nameOf(1, 0), "abcdefghijklmnopqrstuvwx");
    Trial.due("name", t.nameOf(1, 1), "_9");
    Trial.due("name", t.nameOf(1, 2), "Z");
    Trial.due("name(1, 0, 24)", t.units.name(1, 0, 24), -1);
    Trial.due("name(1, 0, -1)", t.units.name(1, 0, -1), -1);
    Trial.due("name(1, 1, 2)", t.units.name(1, 1, 2), -1);
    Trial.due("name(1, 1, 1)", t.units.name(1, 1, 1), '9');
    Trial.due("name(1, 0, MAX)", t.units.name(1, 0, Integer.MAX_VALUE), -1);
    Trial.due("name(1, 0, MIN)", t.units.name(1, 0, Integer.MIN_VALUE), -1);
  }

  private static void wrongNumbers() {
    Trial t = new Trial();
    t.compile("int a;", 1);
    t.compile("int b, c;", 2);
    int[] wrong = {0, -1, 3, 100, 101, Integer.MAX_VALUE, Integer.MIN_VALUE};
    for (int o : wrong) {
      Trial.due("count(" + o + ", 0)", t.units.count(o, 0), -1);
      Trial.due("count(" + o + ", 1)", t.units.count(o, 1), -1);
      Trial.due("name(" + o + ", 0, 0)", t.units.name(o, 0, 0), -1);
      Trial.due("symbol(" + o + ", 0)", t.units.symbol(o, 0), -1);
      Trial.due("pick(" + o + ")", t.units.pick(o), -1);
    }
    for (int k : new int[] {-1, 2, Integer.MAX_VALUE, Integer.MIN_VALUE}) {
      Trial.due("count(1, " + k + ")", t.units.count(1, k), -1);
      Trial.due("symbol(1, " + k + ")", t.units.symbol(1, k), -1);
      Trial.due("name(1, " + k + ", 0)", t.units.name(1, k, 0), -1);
    }
    Trial.due("count(2, 0)", t.units.count(2, 0), 2);
    Trial.due("symbol(2, 1)", t.units.symbol(2, 1), 5);
    Trial.due("symbol(1, 1)", t.units.symbol(1, 1), -1);
  }

  private static void data(int cells, String text) {
    for (int level = 0; level <= 3; level++) {
      Trial t = new Trial();
      Trial.due("compile of " + text, t.compile(text, level), 1);
      Trial.due("count(1, 1) of " + text, t.units.count(1, 1), cells);
    }
  }

  private static void dataCounts() {
    data(0, "");
    data(0, "extern int a; extern int b[9]; int f();");
    data(1, "int a;");
    data(6, "int a, *b, **c[4];");
    data(3, "static int a; static int b[2];");
    data(1, "extern int a; int a; extern int a;");
    data(4, "int a[] = \"abc\";");
    data(9, "int a[9] = \"abc\";");
    data(5, "int *a = \"abc\";");
    data(10, "int f() { \"abc\"; \"abc\"; return \"\"[0] + \"\"[0]; }");
    data(0, "int f() { int a[9] = { 1 }; int b[] = \"abc\"; return a[0]; }");
    data(2, "int f() { int *a = \"\"; int b = 0 && \"\"[0]; return b; }");
    data(16000, "int a[4000], b[4000], c[4000], d[4000];");
  }

  /** What a unit with a fault declared is gone. */
  private static void failedUnitsLeaveNothing() {
    Trial t = new Trial();
    Trial.due("compile", t.compile("int a = 1; int *b = \"xyz\";", 0), 1);
    Trial.due("compile", t.compile("int c = 7; int *d = \"abc\"; int e() { return 1; } int f() { return x; }", 1), -22);
    Trial.due("compile", t.compile("int g[5000];", 1), -24);
    Trial.due("compile", t.compile("int g(", 1), -21);
    Trial.due("objects()", t.units.objects(), 1);
    Trial.due("compile", t.compile("int *h = \"q\"; int k = 3; int main() { return *h + k; }", 2), 2);
    all(1, t, "a:5 b:5 ");
    all(2, t, "h:5 k:5 main:6 ");
    Trial.due("count(2, 1)", t.units.count(2, 1), 4);
    t.units.pick(1);
    t.units.pick(2);
    Trial.due("link()", t.units.link(), 0);
    Trial.due("run", t.units.run(1), 0);
    Trial.due("result()", t.units.result(), 'q' + 3);
    Trial.due("peek(16)", t.units.peek(16), 1);
    Trial.due("peek(17)", t.units.peek(17), 18);
    Trial.due("peek(18)", t.units.peek(18), 'x');
    Trial.due("peek(22)", t.units.peek(22), 23);
    Trial.due("peek(23)", t.units.peek(23), 'q');
    Trial.due("peek(25)", t.units.peek(25), 3);
  }
}
