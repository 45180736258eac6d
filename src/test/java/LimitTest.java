/** What is too much: fault 4, and its order among the others (promises 4 and 5). */
public final class LimitTest {
  public static void main(String[] args) {
    outerNames();
    locals();
    sizes();
    heights();
    data();
    objects();
    densestTexts();
    Trial.finish("LimitTest");
  }

  /** So many variables with one linkage and a space behind each. */
  private static String many(int n, String before, String after) {
    StringBuilder all = new StringBuilder();
    for (int i = 0; i < n; i++) {
      all.append(before).append(i).append(after);
    }
    return all.toString();
  }

  private static void tooMuch(String before, String after) {
    Trial.faultAt(4, before.length(), before + after);
  }

  private static void outerNames() {
    String hundred = many(100, "int a", ";");
    Trial.right(hundred);
    Trial.right(hundred + "extern int a5; extern int a99;");
    tooMuch(hundred + "int ", "b;");
    tooMuch(hundred + "extern int a5; static int ", "b;");
    tooMuch(hundred + "int ", "b();");
    tooMuch(hundred + "int ", "b(int) { return x; }");
    tooMuch(many(100, "int a", "();") + "extern int *", "b;");
    tooMuch(many(50, "static int a", ";") + many(50, "int b", "() { return 1; }") + "int ", "c[0];");
    Trial.right(many(100, "extern int a", ";") + "int a7;");
    Trial.faultAt(2, hundred.length() + 4, hundred + "int a0;");
    tooMuch(hundred + "extern int a1, *", "b, a1;");
  }

  private static void locals() {
    String f = "int f() { ";
    Trial.right(f + many(100, "int a", "; ") + "return 0; }");
    tooMuch(f + many(100, "int a", "; ") + "int ", "b; }");
    tooMuch(f + many(100, "{ int a", "; }") + "int *", "b[0]; }");
    tooMuch("int f(int p, int q) { " + many(98, "int a", "; ") + "int ", "b = x; }");
    Trial.right("int f(int p, int q) { " + many(98, "int a", "; ") + "return 0; } int g() { int b; return b; }");
    String full = f + many(100, "int a", "; ") + "int ";
    Trial.faultAt(2, full.length(), full + "a7; }");
  }

  private static void sizes() {
    Trial.right("int a[4000];");
    Trial.fault(4, "int a^[4001];");
    Trial.fault(4, "int a^[2147483647];");
    Trial.fault(4, "extern int a^[4001];");
    Trial.fault(4, "int f() { int a^[4001]; return 0; }");
    Trial.fault(4, "int a^[4001] = x;");
    Trial.right("int a[] = { " + "1,".repeat(3999) + "1 };");
    tooMuch("int a", "[] = { " + "1,".repeat(4000) + "1 };");
    tooMuch("int a", "[] = { " + "x,".repeat(4000) + "1 };");
    tooMuch("int f() { int a", "[] = { " + "x,".repeat(4000) + "1 }; }");
  }

  private static void heights() {
    String f = "int *p; int g(int x); void v(int x); int f(int a) { ";
    tall(f, "a", " + a", 1);
    tall(f, "a", " * 1", 1);
    tall(f, "a", " && a", 1);
    tall(f, "a", " || a", 1);
    tall(f, "(((a)))", " - (a)", 1);
    // Another height on the way: a + ( .. ), a call, a [ ], a cast, ? : and an assignment.
    String sum59 = "a" + " + a".repeat(58);
    String sum60 = "a" + " + a".repeat(59);
    one(f, "-(" + sum59 + ");", 0, "-(" + sum60 + ");");
    one(f, "!(" + sum59 + ");", 0, "!(" + sum60 + ");");
    one(f, "g(" + sum59 + ");", 0, "g(" + sum60 + ");");
    one(f, "v(" + sum59 + ");", 0, "v(" + sum60 + ");");
    one(f, "p[" + sum59 + "];", 1, "p[" + sum60 + "];");
    one(f, "(int) (" + sum59 + ");", 0, "(int) (" + sum60 + ");");
    one(f, "a ? a : (" + sum59 + ");", 2, "a ? a : (" + sum60 + ");");
    one(f, "a ? " + sum59 + " : a;", 2, "a ? " + sum60 + " : a;");
    one(f, "a = " + sum59 + ";", 2, "a = " + sum60 + ";");
    one(f, "a += " + sum59 + ";", 2, "a += " + sum60 + ";");
    one(f, "*(p + (" + "a" + " + a".repeat(57) + "));", 0, "*(p + (" + sum59 + "));");
    one(f, "p[" + "a" + " + a".repeat(57) + "]++;", 0, null);
    String pp = f + "p[" + sum59 + "]";
    tooMuch(pp, "++; }");
    tooMuch(f, "++p[" + sum59 + "]; }");
    tooMuch(f, "&p[" + sum59 + "]; }");
    Trial.right(f + "return " + sum60 + "; }");
    Trial.right(f + "int b = " + sum60 + "; return 0; }");
    Trial.right(f + "if (" + sum60 + ") ; return 0; }");
    Trial.right("int a = 1" + " + 1".repeat(59) + ";");
    tooMuch("int a = 1" + " + 1".repeat(59) + " ", "+ 1;");
    tooMuch("int a[] = { 1" + " + 1".repeat(59) + " ", "+ 1 };");
    // Of one operator 2 is told before 4, and what is inner before what is outer.
    String sum = f + sum60 + " ";
    Trial.faultAt(2, sum.length(), sum + "+ v(1); }");
    Trial.faultAt(2, sum.length() + 2, sum + "+ x; }");
    tooMuch(f + "g(" + sum60 + " ", "+ a, 1); }");
    Trial.faultAt(2, f.length(), f + "g(" + sum60 + ", 1); }");
    // A call is one higher than its highest argument, and 1 without any.
    tall("int h(); " + f, "h()", " + a", 1);
    Trial.right(f + "return g(1)" + " + a".repeat(58) + "; }");
    tooMuch(f + "return g(1)" + " + a".repeat(58) + " ", "+ a; }");
  }

  /** A chain of 59 signs is as high as may be; the 60th sign is too much. */
  private static void tall(String f, String first, String more, int sign) {
    Trial.right(f + first + more.repeat(59) + "; return 0; }");
    tooMuch(f + first + more.repeat(59) + more.substring(0, sign), more.substring(sign) + "; }");
  }

  /** The one stands, the other is too high at a place in its statement. */
  private static void one(String f, String right, int place, String much) {
    Trial.right(f + right + " return 0; }");
    if (much != null) {
      tooMuch(f + much.substring(0, place), much.substring(place) + " }");
    }
  }

  private static void data() {
    String four = "int a[4000]; int b[4000]; int c[4000]; ";
    Trial.right(four + "int d[4000];");
    tooMuch(four + "int d[4000]; int ", "e;");
    tooMuch(four + "int d[3999]; int ", "e[2];");
    Trial.right(four + "int d[3999]; int e; extern int x[4000];");
    Trial.right(four + "int d[3997]; int *e = \"x\";");
    tooMuch(four + "int d[3998]; int *e = ", "\"x\";");
    tooMuch(four + "int d[3999]; int f() { return ", "\"x\"[x]; }");
    tooMuch(four + "int d[3999]; int f() { return \"\"[0] + ", "\"\"[0]; }");
    Trial.right(four + "int d[3998]; int f() { return \"x\"[0]; }");
    Trial.right(four + "int d[3997]; int f() { int a[] = \"abc\"; return \"x\"[0]; }");
    Trial.right(four + "int d[3998]; int s[] = \"x\";");
    tooMuch(four + "int d[3998]; int ", "s[] = \"xy\";");
    String full = four + "int d[4000]; ";
    Trial.faultAt(2, full.length() + 5, full + "int e[0];");
    Trial.faultAt(2, full.length() + 4, full + "int a;");
    tooMuch(full + "int ", "e = x;");
    tooMuch(full + "extern int e; int ", "e;");
  }

  /** No text makes more instructions a byte than strings that fill local arrays. */
  private static void densestTexts() {
    StringBuilder unit = new StringBuilder("static int f() { int z = 0");
    for (int i = 0; i < 75; i++) {
      unit.append(",a").append((char) ('A' + i % 26)).append((char) ('a' + i / 26)).append("[]=\"");
      unit.append("x".repeat(199)).append("y\"");
    }
    unit.append("; return aAa[198] + aWc[199]; }");
    Trial t = new Trial();
    for (int i = 1; i <= 4; i++) {
      Trial.due("unit " + i, t.compile(unit + (i == 4 ? " int main() { return 5 * f(); }" : ""), i - 1), i);
    }
    t.units.pick(4);
    Trial.due("link()", t.units.link(), 0);
    Trial.due("a frame of 15000 cells", t.units.run(9), 3);
    Trial small = new Trial();
    Trial.due("run", small.go("int f() { int a[] = \"" + "x".repeat(199) + "y\"; return a[198] + a[199]; }"
        + " int main() { return f(); }", 1, 9), 0);
    Trial.due("result()", small.units.result(), 'x' + 'y');
  }

  private static void objects() {
    Trial t = new Trial();
    for (int i = 1; i <= 100; i++) {
      Trial.due("compile " + i, t.units.compile(i % 4), i);
      Trial.due("objects()", t.units.objects(), i);
    }
    Trial.due("compile 101", t.compile("int a;", 0), -14);
    Trial.due("place() behind it", t.units.place(), -1);
    Trial.due("its tray is used up", t.units.end(1), -1);
    Trial.due("a fault is not told", t.compile("int", 0), -14);
    Trial.due("objects()", t.units.objects(), 100);
    Trial u = new Trial();
    Trial.due("compile(4)", u.compile("int a;", 4), -14);
    Trial.due("its tray is used up", u.units.end(1), -1);
    Trial.due("compile(0)", u.compile("int ", 0), -21);
    Trial.due("place()", u.units.place(), 4);
    Trial.due("compile(-1)", u.compile("int a;", -1), -14);
    Trial.due("place()", u.units.place(), -1);
    Trial.due("compile(MIN)", u.compile("int a;", Integer.MIN_VALUE), -14);
    Trial.due("compile(3)", u.compile("int a;", 3), 1);
    Trial.due("place()", u.units.place(), -1);
  }
}
