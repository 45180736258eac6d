/** Promises 10 to 13: pick, link, fault and cell. */
public final class LinkTest {
  private static final String MAIN = "int main() { return 1; }";

  public static void main(String[] args) {
    picking();
    definedTwice();
    definedNowhere();
    otherType();
    noMain();
    muchData();
    orderOfFaults();
    imageStays();
    cells();
    oneUnitInSeveralImages();
    hundredObjects();
    Trial.finish("LinkTest");
  }

  /** Links units in their order at all levels: what link() answers, and the fault's place. */
  private static Trial links(int answer, int object, int symbol, String... texts) {
    Trial t = null;
    for (int level = 0; level <= 3; level++) {
      t = new Trial();
      for (int i = 0; i < texts.length; i++) {
        Trial.due("compile of " + texts[i], t.compile(texts[i], (level + i) % 4), i + 1);
        Trial.due("pick", t.units.pick(i + 1), i + 1);
      }
      String what = String.join(" | ", texts);
      Trial.due("link of " + what, t.units.link(), answer);
      Trial.due("fault(0) of " + what, t.units.fault(0), object);
      Trial.due("fault(1) of " + what, t.units.fault(1), symbol);
    }
    return t;
  }

  private static void linksWell(String... texts) {
    links(0, -1, -1, texts);
  }

  private static void picking() {
    Trial t = new Trial();
    t.compile(MAIN, 0);
    t.compile("int a;", 0);
    Trial.due("pick(3)", t.units.pick(3), -1);
    Trial.due("pick(2)", t.units.pick(2), 1);
    Trial.due("pick(2)", t.units.pick(2), -1);
    Trial.due("pick(1)", t.units.pick(1), 2);
    Trial.due("pick(1)", t.units.pick(1), -1);
    Trial.due("link()", t.units.link(), 0);
    Trial.due("picks are used up", t.units.link(), -34);
    Trial.due("pick(1)", t.units.pick(1), 1);
    Trial.due("link()", t.units.link(), 0);
    t.units.pick(2);
    Trial.due("link()", t.units.link(), -34);
    Trial.due("picks are used up by a fault too", t.units.pick(2), 1);
  }

  private static void definedTwice() {
    links(-31, 1, 0, "int a;", "int a;", MAIN);
    links(-31, 1, 1, "int a;", "int b; int a() { return 1; }", MAIN);
    links(-31, 2, 1, "int a;", MAIN, "static int x; extern int y; int a;");
    links(-31, 1, 0, MAIN, MAIN);
    for (String name : new String[] {"get", "put", "print", "stop"}) {
      links(-31, 0, 1, "int a; int " + name + ";", MAIN);
      links(-31, 0, 0, "int " + name + "() { return 1; }", MAIN);
    }
    linksWell("int a;", "extern int a;", MAIN);
    linksWell("int a;", "static int a;", MAIN);
    linksWell("static int a;", "static int a;", MAIN);
    linksWell("static int f() { return 1; }", "static int f() { return 2; }", MAIN);
    linksWell("static int put() { return 1; } static int get;", MAIN);
  }

  private static void definedNowhere() {
    links(-32, 0, 0, "extern int a; int main() { return a; }");
    links(-32, 0, 1, "extern int b; int f(); int main() { return f(); }");
    links(-32, 1, 1, MAIN, "int g() { return 1; } extern int a; int *p = &a;");
    links(-32, 0, 0, "int gets(); int main() { return gets(); }");
    links(-32, 1, 0, "static int a; int main() { return a; }", "extern int a; int f() { return a; }");
    linksWell("extern int a; int f(); int main() { return 1; }");
    linksWell("extern int a; int f(); int main() { return a + f(); }", "int f() { return 1; } int a;");
    linksWell("int a; int f() { return 1; }", "extern int a; int f(); int main() { return a + f(); }");
    linksWell("int get(); void put(int x); void print(int); void stop(int); int main() { put(get()); print(1); stop(2); return 3; }");
  }

  private static void otherType() {
    links(-33, 1, 0, "int a;", "extern int *a;", MAIN);
    links(-33, 0, 0, "extern int *a;", "int a;", MAIN);
    links(-33, 1, 0, "int a;", "extern int a[];", MAIN);
    links(-33, 1, 0, "int a[3];", "extern int a;", MAIN);
    links(-33, 1, 0, "int a[3];", "extern int *a;", MAIN);
    links(-33, 1, 0, "int a[3];", "extern int a[4];", MAIN);
    links(-33, 1, 0, "int a[3];", "extern int *a[];", MAIN);
    links(-33, 1, 0, "int a[3];", "extern int a[]; extern int a[4]; extern int a[];", MAIN);
    links(-33, 1, 0, "int a;", "int a();", MAIN);
    links(-33, 1, 0, "int a() { return 1; }", "extern int a;", MAIN);
    links(-33, 1, 0, "int f() { return 1; }", "int f(int);", MAIN);
    links(-33, 1, 0, "int f(int x) { return 1; }", "int f();", MAIN);
    links(-33, 1, 0, "int f(int x) { return 1; }", "int f(int *);", MAIN);
    links(-33, 1, 0, "int f(int x, int y) { return 1; }", "int f(int, int, int);", MAIN);
    links(-33, 1, 0, "int f() { return 1; }", "void f();", MAIN);
    links(-33, 1, 0, "int *f() { return 0; }", "int f();", MAIN);
    links(-33, 0, 0, "int put(int);", MAIN);
    links(-33, 0, 0, "void get(void);", MAIN);
    links(-33, 0, 0, "int get(int);", MAIN);
    links(-33, 0, 0, "void print(int *);", MAIN);
    links(-33, 0, 0, "extern int stop;", MAIN);
    linksWell("int a[3];", "extern int a[]; extern int a[3];", "extern int a[];", MAIN);
    linksWell("int f(int x, int *y, int z[]) { return 1; }", "int f(int, int *, int *);", MAIN);
    linksWell("int f(int x);", "extern int f;", MAIN);
  }

  private static void noMain() {
    links(-34, -1, -1, "int a;");
    links(-34, -1, -1, "int main;");
    links(-34, -1, -1, "int main();");
    links(-34, -1, -1, "void main() { }");
    links(-34, -1, -1, "int *main() { return 0; }");
    links(-34, -1, -1, "int main(int x) { return 0; }");
    links(-34, -1, -1, "static int main() { return 0; }");
    links(-34, -1, -1, "int mainly() { return 0; }");
    links(-34, -1, -1, "int Main() { return 0; }");
    linksWell("int main(void) { return 0; }");
    Trial.due("link() of nothing", new LinkedUnits().link(), -34);
  }

  private static void muchData() {
    String full = "int a[4000]; int b[4000]; int c[4000]; int d[4000];";
    linksWell(full, MAIN);
    links(-35, -1, -1, full, MAIN + " int e;");
    links(-35, -1, -1, full, "static int e;", MAIN);
    links(-35, -1, -1, full, "int main() { \"\"; return 0; }");
  }

  private static void orderOfFaults() {
    links(-31, 2, 0, "extern int a; int f() { return a; }", "int g(); int f2; ", "int f2;");
    links(-32, 1, 0, "extern int *b;", "extern int a; int f() { return a; } int b;");
    links(-33, 0, 0, "extern int *b;", "int b;");
    links(-31, 1, 1, "int a; int b;", "int c; int b; int a;", "int c;");
    links(-32, 0, 1, "int y(); int x(); int f() { return x() + y(); }", "int y() { return 1; }");
    links(-33, 0, 2, "int b; extern int c; extern int *a; int *d();", "int a; int d() { return 1; } int c;");
    links(-34, -1, -1, "int a[4000]; int b[4000]; int c[4000]; int d[4000]; int e2();", "int e;");
    Trial t = links(-31, 1, 0, "int a;", "int a;");
    t.compile(MAIN, 0);
    t.units.pick(3);
    Trial.due("link()", t.units.link(), 0);
    Trial.due("fault(0) behind a link without fault", t.units.fault(0), -1);
    Trial.due("fault(1) behind a link without fault", t.units.fault(1), -1);
    t.units.pick(1);
    t.units.pick(2);
    t.units.link();
    Trial.due("fault(0)", t.units.fault(0), 1);
    Trial.due("fault(2)", t.units.fault(2), -1);
    Trial.due("fault(-1)", t.units.fault(-1), -1);
    // It is told which object in the order, not which number it has.
    t.units.pick(2);
    t.units.pick(3);
    t.units.pick(1);
    t.units.link();
    Trial.due("fault(0)", t.units.fault(0), 2);
  }

  private static void imageStays() {
    Trial t = new Trial();
    t.compile("int a = 5; int main() { return a; }", 0);
    t.compile("int b; int a = 6;", 0);
    t.compile("extern int a; extern int b; int main() { b = 1; return a; }", 0);
    t.units.pick(1);
    t.units.link();
    Trial.due("cell a", t.cell("a"), 16);
    t.units.pick(1);
    t.units.pick(2);
    Trial.due("link()", t.units.link(), -31);
    Trial.due("cell a", t.cell("a"), 16);
    Trial.due("cell b", t.cell("b"), -1);
    Trial.due("run", t.units.run(9), 0);
    Trial.due("result()", t.units.result(), 5);
    t.units.pick(3);
    t.units.pick(2);
    Trial.due("link()", t.units.link(), 0);
    Trial.due("result() stays behind link()", t.units.result(), 5);
    Trial.due("peek() stays behind link()", t.units.peek(16), 5);
    Trial.due("turns() stay behind link()", t.units.turns(), 1);
    Trial.due("cell a", t.cell("a"), 17);
    Trial.due("run", t.units.run(9), 0);
    Trial.due("result()", t.units.result(), 6);
    Trial.due("peek(16)", t.units.peek(16), 1);
    // A unit compiled behind link() changes nothing in the image.
    t.compile("int c = 1; int main() { return 9; }", 0);
    Trial.due("run", t.units.run(9), 0);
    Trial.due("result()", t.units.result(), 6);
    Trial.due("cell c", t.cell("c"), -1);
  }

  private static void cells() {
    Trial t = new Trial();
    t.compile("extern int z; extern int late; int *a = \"xyz\"; static int s = 1; int b[3]; int f() { return s; } int late;", 0);
    t.compile("int c; extern int a2[]; int main() { \"q\"; return 0; } int d;", 3);
    Trial.due("cell before an image", t.cell("put"), -1);
    Trial.due("its tray is used up", t.units.end(1), -1);
    t.units.pick(1);
    t.units.pick(2);
    Trial.due("link()", t.units.link(), 0);
    Trial.due("cell a", t.cell("a"), 16);
    Trial.due("cell b", t.cell("b"), 22);
    Trial.due("cell late", t.cell("late"), 25);
    Trial.due("cell c", t.cell("c"), 26);
    Trial.due("cell d", t.cell("d"), 29);
    Trial.due("cell f", t.cell("f"), 0);
    Trial.due("cell main", t.cell("main"), 0);
    Trial.due("cell of what is static", t.cell("s"), -1);
    Trial.due("cell of what is not defined", t.cell("z"), -1);
    Trial.due("cell of what is not defined", t.cell("a2"), -1);
    Trial.due("cell of nothing", t.cell(""), -1);
    Trial.due("cell of more", t.cell("a "), -1);
    Trial.due("cell of a part", t.cell("lat"), -1);
    Trial.due("cell of a long text", t.cell("a".repeat(500)), -1);
    for (String name : new String[] {"get", "put", "print", "stop"}) {
      Trial.due("cell " + name, t.cell(name), 0);
    }
    Trial.due("tray is used up", t.units.end(1), -1);
  }

  /** As many objects as there may be, each with a symbol that the next one needs. */
  private static void hundredObjects() {
    Trial t = new Trial();
    t.compile("int v1 = 5, *p1 = &v1; int f1() { return *p1; }", 0);
    for (int i = 2; i < 100; i++) {
      t.compile("int f" + (i - 1) + "(); extern int v" + (i - 1) + ", v" + i + "; int *p" + i + " = &v" + i + "; int f" + i
          + "() { return *p" + i + " + f" + (i - 1) + "() + v" + (i - 1) + "; } int v" + i + " = " + i + ";", i % 4);
    }
    Trial.due("compile", t.compile("int f99(); int last = 7; int *p = &last; int main() { return f99() + *p; }", 1), 100);
    for (int i = 100; i >= 1; i--) {
      Trial.due("pick", t.units.pick(i), 101 - i);
    }
    Trial.due("link()", t.units.link(), 0);
    Trial.due("run", t.units.run(1000), 0);
    // 5 + (2 + 5) + the sums of each number and the one before it.
    int sum = 5 + 2 + 5;
    for (int i = 3; i < 100; i++) {
      sum += i + i - 1;
    }
    Trial.due("result()", t.units.result(), sum + 7);
    Trial.due("turns()", t.units.turns(), 100);
    Trial.due("cell last", t.cell("last"), 16);
    Trial.due("cell v1", t.cell("v1"), 16 + 2 + 98 * 2);
    Trial.due("peek of p", t.units.peek(17), 16);
  }

  private static void oneUnitInSeveralImages() {
    Trial t = new Trial();
    t.compile("int f(); extern int v; int *p = &v; int main() { return f() * 10 + *p + \"7\"[0] - '0'; }", 1);
    t.compile("int v = 100; int f() { return 1; }", 2);
    t.compile("int pad[50]; int f() { return 2; } int v = 200;", 3);
    t.units.pick(1);
    t.units.pick(2);
    Trial.due("link()", t.units.link(), 0);
    Trial.due("run", t.units.run(9), 0);
    Trial.due("result()", t.units.result(), 117);
    t.units.pick(3);
    t.units.pick(1);
    Trial.due("link()", t.units.link(), 0);
    Trial.due("run", t.units.run(9), 0);
    Trial.due("result()", t.units.result(), 227);
    t.units.pick(2);
    t.units.pick(1);
    Trial.due("link()", t.units.link(), 0);
    Trial.due("run", t.units.run(9), 0);
    Trial.due("result()", t.units.result(), 117);
    Trial.due("cell p", t.cell("p"), 17);
    Trial.due("peek(17)", t.units.peek(17), 16);
  }
}
