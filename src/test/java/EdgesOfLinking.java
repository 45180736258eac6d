/** Term 4 and what term 6 adds to it: each sentence, and both sides of each edge in it. */
final class EdgesOfLinking {
  private EdgesOfLinking() {
  }

  private static final String MAIN = "int main() { return 1; }";

  static void ask() {
    objects();
    symbols();
    data();
    faults();
    library();
    definedTwice();
    usedAndNowhere();
    otherType();
    noMain();
    muchData();
    order();
    memory();
  }

  private static void objects() {
    Sentence.says("4 OBJECTS AND LINKING. A unit without a fault becomes an object, numbered from 1 (at most 100 for life).");
    Trial t = new Trial();
    for (int i = 1; i <= 99; i++) {
      Trial.due("compile", t.compile("int a" + i + ";", i % 4), i);
    }
    Trial.due("compile of a fault", t.compile("int", 0), -21);
    Trial.due("compile of a fault", t.compile("int a = b;", 1), -22);
    Trial.due("compile of a fault", t.compile("int a[4001];", 2), -24);
    Trial.due("objects()", t.units.objects(), 99);
    Trial.due("the hundredth", t.compile("int z;", 3), 100);
    Trial.due("one more", t.compile("int y;", 0), -14);
    Trial.due("one more with a fault", t.compile("int", 0), -14);
    Trial.due("objects()", t.units.objects(), 100);
    Trial.due("count(100, 0)", t.units.count(100, 0), 1);
    Trial.due("count(101, 0)", t.units.count(101, 0), -1);
    Trial.due("count(0, 0)", t.units.count(0, 0), -1);
    Trial.due("name(99, 0, 2)", t.units.name(99, 0, 2), '9');
    Trial.due("name(100, 0, 0)", t.units.name(100, 0, 0), 'z');
    t.units.pick(100);
    t.units.link();
    Trial.due("one more behind link()", t.compile(MAIN, 0), -14);
  }

  /** The names and kinds of a unit's symbols, at every level. */
  private static void symbols(String text, String wanted) {
    for (int level = 0; level <= 3; level++) {
      Trial t = new Trial();
      Trial.due("compile of " + text, t.compile(text, level), 1);
      StringBuilder got = new StringBuilder();
      for (int s = 0; s < t.units.count(1, 0); s++) {
        got.append(t.nameOf(1, s)).append(t.units.symbol(1, s)).append(' ');
      }
      Trial.due("symbols of " + text, got.toString().trim(), wanted);
    }
  }

  private static void symbols() {
    Sentence.says("Its SYMBOLS are the functions and variables outside of functions that are not static, in the order in which they come first; each is DEFINED (a body; no extern) or not, and USED if it is not defined and stands in an expression or initial.");
    symbols("", "");
    symbols("static int a; static int f() { return a; } static void g();", "");
    symbols("int a; static int b; int c, *d[2]; void f(); static int g(); int h() { int local; return 0; }", "a5 c5 d5 f2 h6");
    symbols("extern int b; int a; int b; int f(); int g() { return 0; } int f() { return 1; } extern int a;", "b5 a5 f6 g6");
    symbols("extern int a; extern int b[]; extern int c[2]; int f(int x); extern int g();", "a1 b1 c1 f2 g2");
    symbols("extern int a; int f() { return a; }", "a9 f6");
    symbols("extern int a; int f() { return a; } int a;", "a5 f6");
    symbols("int a; int f() { return a; }", "a5 f6");
    symbols("int g(); int f() { return g(); }", "g10 f6");
    symbols("int g(); int f() { return g(); } int g() { return 0; }", "g6 f6");
    symbols("int g() { return g(); }", "g6");
    symbols("extern int a; extern int b[]; extern int c; int *p = &a; int *q[2] = { 0, b + 1 };", "a9 b9 c1 p5 q5");
    symbols("extern int a; void f() { &a; } ", "a9 f6");
    symbols("extern int a; void f() { if (0) a; }", "a9 f6");
    symbols("extern int a; void f() { 0 && a; }", "a9 f6");
    symbols("extern int a; void f() { int x = a; }", "a9 f6");
    symbols("extern int a; void f() { int x[2] = { a }; }", "a9 f6");
    symbols("extern int a; void f() { return; a = 1; }", "a9 f6");
    symbols("extern int a, b; int f() { int a = 1; { int b; b = a; } return a; }", "a1 b1 f6");
    symbols("extern int a; int f(int a) { return a; } int g(int a);", "a1 f6 g2");
    symbols("extern int a; static int f() { return a; }", "a9");
    Sentence.says("An extern variable is defined if one that is not extern stands in the unit.");
    symbols("extern int a; int a;", "a5");
    symbols("int a; extern int a;", "a5");
    symbols("extern int a; extern int a;", "a1");
    symbols("extern int a[]; int a[3];", "a5");
    symbols("extern int f() { return 0; } extern int g();", "f6 g2");
    afterFaults();
  }

  /** What a unit with a fault declared is nothing to the units behind it. */
  private static void afterFaults() {
    String[] faulty = {
      "static int a() { return 1; } static int b[3] = { 1, 2 }; static int c() { return a() + b[0]; } int x = nothing;",
      "extern int a; extern int b[]; int *p = &a, *q = b; int x[0];",
      "int a(int, int *); void b(int **x) { a(1, *x); } int *c() { b(0); return 0; } int x[4001];",
      "int a = 5, *b = \"abc\", c[4000], d[4000], e[4000], f[4000];",
    };
    for (String text : faulty) {
      for (int level = 0; level <= 3; level++) {
        Trial t = new Trial();
        Trial.due("compile of " + text, t.compile(text, level) < 0 ? 1 : 0, 1);
        Trial.due("compile behind it", t.compile("extern int a; int b, c[2]; int *d; int main() { return b + c[1] + (d != 0); }", level), 1);
        StringBuilder got = new StringBuilder();
        for (int s = 0; s < t.units.count(1, 0); s++) {
          got.append(t.nameOf(1, s)).append(t.units.symbol(1, s)).append(' ');
        }
        Trial.due("symbols behind " + text, got.toString(), "a1 b5 c5 d5 main6 ");
        Trial.due("count(1, 1) behind " + text, t.units.count(1, 1), 4);
        t.units.pick(1);
        Trial.due("link()", t.units.link(), 0);
        Trial.due("run", t.units.run(1), 0);
        Trial.due("result() behind " + text, t.units.result(), 0);
        for (int i = 16; i < 24; i++) {
          Trial.due("peek(" + i + ") behind " + text, t.units.peek(i), 0);
        }
      }
    }
  }

  private static void peeks(String text, int... want) {
    for (int level = 0; level <= 3; level++) {
      Trial t = new Trial();
      Trial.due("run of " + text, t.go(text + " int main() { return 0; }", level, 1), 0);
      Trial.due("count(1, 1) of " + text, t.units.count(1, 1), want.length);
      for (int i = 0; i < want.length; i++) {
        Trial.due("data " + i + " of " + text, t.units.peek(16 + i), want[i]);
      }
      Trial.due("behind the data of " + text, t.units.peek(16 + want.length), 0);
    }
  }

  private static void data() {
    Sentence.says("Its DATA are the cells of its variables outside of functions that are defined, and of its STRINGS that are expressions, in the order of the text (a variable's NAME, a STRING's token).");
    peeks("");
    peeks("extern int a; extern int b[9]; int f();");
    peeks("int a = 7;", 7);
    peeks("int a = 1, b[3] = { 2, 3 }, c = 4;", 1, 2, 3, 0, 4);
    peeks("static int a = 1; int b = 2; static int c[2] = { 3, 4 };", 1, 2, 3, 4);
    peeks("int *a = \"xy\", b = 5;", 17, 'x', 'y', 0, 5);
    peeks("int *a[] = { \"x\", \"\", \"z\" }; int b = 5;", 19, 21, 22, 'x', 0, 0, 'z', 0, 5);
    peeks("int a[] = \"xy\"; int b = 5;", 'x', 'y', 0, 5);
    peeks("int a[2] = \"xy\"; int b = 5;", 'x', 'y', 5);
    peeks("int a[5] = \"xy\"; int b = 5;", 'x', 'y', 0, 0, 0, 5);
    peeks("int a = 1; int f() { \"p\"; int x[] = \"no\"; int *y = \"q\"; return 0 && \"r\"[0]; } int b = 2;", 1, 'p', 0, 'q', 0, 'r', 0, 2);
    peeks("int *a = \"x\"; int *b = \"x\";", 17, 'x', 0, 20, 'x', 0);
    peeks("int *a = \"a\\0b\" + 1;", 18, 'a', 0, 'b', 0);
    peeks("extern int b; int a = 1; int b = 2; extern int b;", 1, 2);
    peeks("extern int b; int *a = &b; int b = 2;", 17, 2);
    peeks("int b = 2; int *a = 3 + &b; int *c = &b - 1;", 2, 19, 15);
    peeks("int a[3]; int *b = a + 2; int **c = &b; int ***d[2] = { &c };", 0, 0, 0, 18, 19, 20, 0);
  }

  /** Links units in their order, at several levels: what link() answers, and the fault's place. */
  private static void links(int answer, int object, int symbol, String... texts) {
    for (int level = 0; level <= 3; level++) {
      Trial t = new Trial();
      for (int i = 0; i < texts.length; i++) {
        Trial.due("compile of " + texts[i], t.compile(texts[i], (level + i) % 4), i + 1);
        t.units.pick(i + 1);
      }
      String what = String.join(" | ", texts);
      Trial.due("link of " + what, t.units.link(), answer);
      Trial.due("fault(0) of " + what, t.units.fault(0), object);
      Trial.due("fault(1) of " + what, t.units.fault(1), symbol);
    }
  }

  private static void fine(String... texts) {
    links(0, -1, -1, texts);
  }

  private static void faults() {
    Sentence.says("LINKING objects in their order: FAULTS, the first:");
    Trial t = new Trial();
    t.compile("int a; int b;", 0);
    t.compile("int c; int b; int a;", 1);
    t.compile(MAIN, 2);
    int[][] orders = {{1, 2, 3}, {3, 2, 1}, {2, 1}, {2, 3, 1}};
    int[][] places = {{1, 1}, {2, 0}, {1, 0}, {2, 0}};
    for (int k = 0; k < orders.length; k++) {
      for (int i = 0; i < orders[k].length; i++) {
        Trial.due("pick", t.units.pick(orders[k][i]), i + 1);
      }
      Trial.due("link()", t.units.link(), -31);
      Trial.due("fault(0)", t.units.fault(0), places[k][0]);
      Trial.due("fault(1)", t.units.fault(1), places[k][1]);
    }
  }

  private static void library() {
    Sentence.says("Functions of the LIBRARY: int get(void), void put(int), void print(int), void stop(int).");
    fine("int get(void); void put(int); void print(int x); void stop(int); int main() { put(get()); print(1); stop(2); return 3; }");
    links(-33, 0, 0, "int get(int);", MAIN);
    links(-33, 0, 0, "int *get(void);", MAIN);
    links(-33, 0, 0, "void get(void);", MAIN);
    for (String name : new String[] {"put", "print", "stop"}) {
      fine("void " + name + "(int); int main() { " + name + "(1); return 0; }");
      links(-33, 0, 0, "int " + name + "(int);", MAIN);
      links(-33, 0, 0, "void " + name + "();", MAIN);
      links(-33, 0, 0, "void " + name + "(int *);", MAIN);
      links(-33, 0, 0, "void " + name + "(int, int);", MAIN);
      links(-33, 0, 0, "extern int " + name + ";", MAIN);
    }
    for (String name : new String[] {"gets", "pu", "printf", "Stop", "exit", "_get"}) {
      links(-32, 0, 0, "void " + name + "(int); int main() { " + name + "(1); return 0; }");
    }
  }

  private static void definedTwice() {
    Sentence.says("31 a defined symbol that one before (or the library) defines;");
    links(-31, 1, 0, "int a;", "int a;", MAIN);
    links(-31, 2, 0, "int a;", MAIN, "int a() { return 1; }");
    links(-31, 1, 1, "int f() { return 1; }", "int b; int f() { return 2; }", MAIN);
    links(-31, 1, 0, MAIN, MAIN);
    for (String name : new String[] {"get", "put", "print", "stop"}) {
      links(-31, 0, 0, "int " + name + ";", MAIN);
      links(-31, 0, 1, "int x; void " + name + "(int x) { }", MAIN);
      fine("static int " + name + ";", MAIN);
      fine("static void " + name + "() { }", MAIN);
    }
    fine("int a;", "extern int a;", "static int a;", MAIN);
    fine("extern int a;", "int a;", MAIN);
    fine("static int a;", "static int a;", MAIN);
    fine("int a;", "int b;", MAIN);
    fine("int f() { return 1; }", "int f();", "static int f() { return 1; }", MAIN);
  }

  private static void usedAndNowhere() {
    Sentence.says("then 32 a used one that none defines;");
    links(-32, 0, 0, "extern int a; int main() { return a; }");
    links(-32, 0, 0, "int f(); int main() { return f(); }");
    links(-32, 0, 1, "int b; extern int a; int *p = &a; " + MAIN);
    links(-32, 0, 0, "extern int a; int main() { return a; }", "static int a;");
    links(-32, 0, 0, "extern int a; int main() { return a; }", "extern int a;");
    links(-32, 1, 0, MAIN, "int f(); static int g() { return f(); }", "static int f() { return 1; }");
    fine("extern int a; int f(); " + MAIN);
    fine("extern int a; int main() { return a; }", "int a;");
    fine("int a;", "extern int a; int main() { return a; }");
    fine("int f(); int main() { return f(); }", "int f() { return 1; }");
  }

  private static void otherType() {
    Sentence.says("then 33 one that is not defined whose type (variable or function; of an array without size any size) is not that of the definition;");
    String[][] same = {
      {"extern int a;", "int a;"}, {"extern int ***a;", "int ***a;"}, {"extern int a[2];", "int a[2];"}, {"extern int a[];", "int a[2];"},
      {"extern int a[];", "int a[4000];"}, {"extern int *a[];", "int *a[1];"}, {"extern int a[3];", "int a[] = \"ab\";"}, {"int a();", "int a(void) { return 1; }"},
      {"int *a(int, int *, int []);", "int *a(int x, int y[], int *z) { return 0; }"}, {"void a(int);", "void a(int x) { }"}, {"extern int a();", "int a() { return 1; }"},
    };
    for (String[] pair : same) {
      fine(pair[0], pair[1], MAIN);
      fine(pair[1], pair[0], MAIN);
    }
    String[][] other = {
      {"extern int a;", "int *a;"}, {"extern int *a;", "int a;"}, {"extern int a;", "int a[1];"}, {"extern int a[1];", "int a;"}, {"extern int a[];", "int a;"},
      {"extern int a[];", "int *a;"}, {"extern int *a;", "int a[1];"}, {"extern int a[2];", "int a[3];"}, {"extern int a[3];", "int a[2];"}, {"extern int a[];", "int *a[2];"},
      {"extern int *a[2];", "int a[2];"}, {"extern int a;", "int a() { return 1; }"}, {"int a();", "int a;"}, {"int a();", "int a[1];"}, {"int a();", "int *a() { return 0; }"},
      {"int a();", "void a() { }"}, {"void a();", "int a() { return 1; }"}, {"int a();", "int a(int x) { return 1; }"}, {"int a(int);", "int a() { return 1; }"},
      {"int a(int);", "int a(int *x) { return 1; }"}, {"int a(int, int);", "int a(int x) { return 1; }"}, {"int a(int *, int);", "int a(int x, int *y) { return 1; }"},
      {"int a(int, int, int, int, int, int, int, int);", "int a(int s, int t, int u, int v, int w, int x, int y, int *z) { return 1; }"},
    };
    for (String[] pair : other) {
      links(-33, 0, 0, pair[0], pair[1], MAIN);
      links(-33, 1, 0, pair[1], pair[0], MAIN);
      links(-33, 1, 1, pair[1], "static int s; int z; " + pair[0], MAIN);
    }
    links(-33, 1, 0, "int a[3];", "extern int a[]; extern int a[4];", MAIN);
    links(-33, 1, 0, "extern int a[]; int a[1];", "extern int a[2];", MAIN);
    links(-33, 1, 0, "int a[2];", "extern int a[]; extern int a[1];", MAIN);
    fine("extern int a[]; int a[1];", "extern int a[]; extern int a[1];", MAIN);
    fine("int a[3];", "extern int a[3]; extern int a[];", MAIN);
    fine("extern int a;", "extern int *a;", "int a();", MAIN);
    fine("static int a;", "extern int *a;", MAIN);
  }

  private static void noMain() {
    Sentence.says("then 34 no main that is int main(void);");
    fine("int main() { return 1; }");
    fine("int main(void) { }");
    fine("extern int main() { return 1; }");
    fine("int main();", MAIN);
    for (String none : new String[] {"", "int a;", "int main;", "int main();", "extern int main;", "int main[1];", "void main() { }", "int *main() { return 0; }",
        "int main(int x) { return 0; }", "static int main() { return 0; }", "int mai() { return 0; }", "int mainn() { return 0; }", "int MAIN() { return 0; }"}) {
      links(-34, -1, -1, none);
    }
    links(-34, -1, -1);
    links(-33, 1, 0, "int main;", "int main();");
    links(-32, 0, 0, "int main(); int f() { return main(); }");
  }

  private static void muchData() {
    Sentence.says("35 more than 16000 cells of data.");
    String a = "int a[4000], b[4000], c[4000], ";
    fine(a + "d[4000];", MAIN);
    fine(a + "d[3999];", MAIN + " int e;");
    fine(a + "d[3998];", "int main() { return \"x\"[0]; }");
    fine(a + "d[4000];", MAIN + " extern int e; extern int a[];");
    links(-35, -1, -1, a + "d[4000];", MAIN + " int e;");
    links(-35, -1, -1, a + "d[4000];", MAIN + " static int e;");
    links(-35, -1, -1, a + "d[4000];", MAIN, "int e;");
    links(-35, -1, -1, a + "d[4000];", "int main() { return \"\"[0]; }");
    links(-35, -1, -1, a + "d[4000];", "int e[4000], f[4000], g[4000], h[4000];", MAIN);
    links(-34, -1, -1, a + "d[4000];", "int e;");
  }

  private static void order() {
    Sentence.says("Of 31, 32, 33 the first by object, then by symbol.");
    links(-31, 1, 1, "int a, b;", "int c, b, a;", "int c;", MAIN);
    links(-31, 1, 0, "int b, a;", "int b, a;", MAIN);
    links(-31, 2, 0, "int a;", MAIN, "int a;", "int a;");
    links(-32, 0, 1, "int y(); int x(); int main() { return x() + y(); }", "int y() { return 1; }");
    links(-32, 0, 0, "int y(); int x(); int main() { return x() + y(); }");
    links(-32, 1, 0, MAIN, "int y(); int g() { return y(); }", "int z(); int h() { return z(); }");
    links(-33, 0, 1, "extern int a, *b, *c;", "int a, b, c;", MAIN);
    links(-33, 1, 0, "int a, b;", "extern int *b, *a;", "extern int *a;", MAIN);
    // A fault with a smaller number comes first, wherever it is.
    links(-31, 3, 0, "extern int *q; int z(); int main() { return z(); }", "int q;", "int d;", "int d;");
    links(-32, 2, 0, "extern int *q;", "int q;", "int z(); int main() { return z(); }");
    links(-33, 0, 0, "extern int *q;", "int q;");
    links(-34, -1, -1, "int a[4000], b[4000], c[4000], d[4000];", "int e;");
    Sentence.says("Told are which object in the order (0 the first) and which of its symbols (-1, -1 for 34 and 35).");
    Trial t = new Trial();
    t.compile("int a;", 0);
    t.compile("static int s; extern int e; int b, a;", 1);
    t.compile(MAIN, 2);
    t.units.pick(3);
    t.units.pick(1);
    t.units.pick(2);
    Trial.due("link()", t.units.link(), -31);
    Trial.due("fault(0)", t.units.fault(0), 2);
    Trial.due("fault(1)", t.units.fault(1), 2);
    Trial.due("link() of nothing", t.units.link(), -34);
    Trial.due("fault(0)", t.units.fault(0), -1);
    Trial.due("fault(1)", t.units.fault(1), -1);
  }

  private static void memory() {
    Sentence.says("The image's MEMORY has 32768 cells, ints; data stand from cell 16 on, object by object.");
    Trial t = new Trial();
    t.compile("int a = 1, b = 2; int *s = \"x\";", 0);
    t.compile("int c = 3; extern int a; int *p = &a; int main() { *(int *) 32767 = 9; return 0; }", 1);
    t.compile("int empty();", 2);
    t.compile("static int d[2] = { 4, 5 };", 3);
    int[] order = {4, 3, 2, 1};
    for (int o : order) {
      t.units.pick(o);
    }
    Trial.due("link()", t.units.link(), 0);
    Trial.due("run", t.units.run(1), 0);
    int[] want = {4, 5, 3, 20, 1, 2, 23, 'x', 0, 0};
    for (int i = 0; i < want.length; i++) {
      Trial.due("cell " + (16 + i), t.units.peek(16 + i), want[i]);
    }
    Trial.due("cell c", t.cell("c"), 18);
    Trial.due("cell p", t.cell("p"), 19);
    Trial.due("cell a", t.cell("a"), 20);
    Trial.due("cell 32767", t.units.peek(32767), 9);
    Trial.due("cell 32768", t.units.peek(32768), 0);
    // No object's initials are put among another's data.
    Trial u = new Trial();
    u.compile("int a[3] = { 1, 2, 3 };", 1);
    u.compile("int b[5];", 2);
    u.compile("int c[3] = { 0, 4 }; int d[4]; " + MAIN, 3);
    int[][] orders = {{1, 2, 3}, {3, 2, 1}, {2, 3}, {3, 2}, {3}};
    int[][] sizes = {{}, {1, 2, 3}, {0, 0, 0, 0, 0}, {0, 4, 0, 0, 0, 0, 0}};
    for (int[] picks : orders) {
      for (int o : picks) {
        u.units.pick(o);
      }
      Trial.due("link()", u.units.link(), 0);
      Trial.due("run", u.units.run(1), 0);
      int cell = 16;
      for (int o : picks) {
        for (int value : sizes[o]) {
          Trial.due("cell " + cell, u.units.peek(cell), value);
          cell++;
        }
      }
      Trial.due("behind the data", u.units.peek(cell), 0);
    }
    Sentence.says("A pointer is the number of a cell.");
    Trial.gives(17, "int a, b; int main() { return (int) &b; }");
    Trial.gives(5, "int a, b = 5; int main() { return *(int *) 17; }");
    Trial.gives(32768 - 32 - 1, Trial.main("int x; return (int) &x;"));
    Sentence.says("There is no cell below 16.");
    for (int i = 0; i < 16; i++) {
      Trial.traps(2, 1, Trial.main("return *(int *) " + i + ";"));
      Trial.due("peek(" + i + ")", t.units.peek(i), 0);
    }
    Trial.gives(0, Trial.main("return *(int *) 16;"));
  }
}
