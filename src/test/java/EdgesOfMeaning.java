/** Term 3 and what term 6 adds to it: each sentence, and both sides of each edge in it. */
final class EdgesOfMeaning {
  private EdgesOfMeaning() {
  }

  private static final String PRELUDE = "int n; int *p; int **q; int a[4]; int *b[2]; extern int e; extern int m[];"
      + " int f(void); int g(int x, int *y); int *h(); void v(void); void w(int x); int k(int *****r[]) { int i;"
      + " int *j; int **l; int c[3]; ";

  static void ask() {
    types();
    scopes();
    order();
    functions();
    names();
    squares();
    constants();
    initials();
    expressions();
    places();
    unarySigns();
    binarySigns();
    assignments();
    calls();
    where();
    further();
  }

  /** Marked statements of a function in a unit with a bit of everything, with a fault 2. */
  private static void no(String marked) {
    Trial.fault(2, PRELUDE + marked + " }");
  }

  private static void yes(String statements) {
    Trial.right(PRELUDE + statements + " }");
  }

  private static void types() {
    Sentence.says("3 MEANING. TYPES of values: int, and pointers with 1 to 9 stars, to values with one star less; of a function's result also void.");
    yes("******r; r; *r; &r; *******&r; ******&r; **b; return 0;");
    no("^*******r;");
    no("^********&r;");
    no("^***b;");
    no("^*n;");
    no("^**p;");
    no("^***q;");
    no("^*v();");
    no("j ^= r;");
    yes("int *****s = *r; int ****t = **r; int u = ******r; return 0;");
    no("int *****s ^= r;");
    no("int *****s ^= **r;");
    Sentence.says("A variable has a type, or is an ARRAY of so many cells of a type.");
    yes("a[3]; a[4]; a[-1]; **b; *b[1]; return 0;");
    Trial.due("cells", cellsOf("int x; int *y; int z[7]; int *u[9];"), 18);
    no("n^[0];");
    no("a[0]^[0];");
  }

  private static int cellsOf(String text) {
    Trial t = new Trial();
    t.compile(text, text.length() % 4);
    return t.units.count(1, 1);
  }

  private static void scopes() {
    Sentence.says("SCOPES: the unit; the parameters with the function's outermost block; each block, and each for, while, do, if statement's body that is no block.");
    Trial.right("int x; int f(int x) { { int x; } return x; } int g() { int x; { int x; { int x; } } return x; }");
    Trial.fault(2, "int x; int ^x;");
    Trial.fault(2, "int f(int x) { int ^x; return 0; }");
    Trial.fault(2, "int f() { int x; int ^x; return 0; }");
    Trial.fault(2, "int f() { { int x; int ^x; } return 0; }");
    Trial.right("int f() { { int x; } { int x; } int x; return x; }");
    Trial.right("int f() { for (;;) int x; while (1) int x; do int x; while (1); if (1) int x; else int x; int x; return x; }");
    for (String head : new String[] {"for (;;) int x; ", "while (1) int x; ", "do int x; while (1); ", "if (1) int x; ",
        "if (1) ; else int x; ", "{ int x; } ", "for (;;) { int x; } ", "while (1) { int x; } ", "do { int x; } while (1); ",
        "if (1) { int x; } ", "if (1) ; else { int x; } "}) {
      Trial.fault(2, "int f() { " + head + "return ^x; }");
      Trial.right("int f() { int x; " + head + "return x; }");
      Trial.right("int f(int x) { " + head + "return x; }");
    }
    Trial.fault(2, "int f() { if (1) int x; else ^x; return 0; }");
    Trial.fault(2, "int f() { do int x; while (^x); return 0; }");
    Trial.fault(2, "int f() { for (; ^x; ) int x; return 0; }");
    Trial.fault(2, "int f() { for (; ; ^x) int x; return 0; }");
    Trial.fault(2, "int f() { while (^x) int x; return 0; }");
    Trial.fault(2, "int f() { if (1) { int x; int ^x; } return 0; }");
    Trial.fault(2, "int f(int x) { return x; } int g() { return ^x; }");
    Trial.fault(2, "int f() { int x; return x; } int y = ^x;");
    Sentence.says("A name means the nearest declaration before it (of a variable from behind its name, or its [ ], on).");
    Trial.gives(1, "int x = 5; int main() { int x = x + 1; return x; }");
    Trial.gives(1, "int x = 5; int main() { int x = 6; { int x = x + 1; return x; } }");
    Trial.gives(6, "int x = 5; int main() { int y = x + 1; int x = 9; return y; }");
    Trial.gives(7, Trial.main("int x = 5; { int x[2] = { 7, x[0] }; return x[1]; }"));
    Trial.gives(3, "int x = 1; int main() { int x = 2; if (1) int x = 9; { int x = 8; } { x++; } return x; }");
    Trial.gives(5, "int x = 5; int f(int x) { return x; } int main() { f(7); return x; }");
    Trial.fault(2, "int y = ^z; int z;");
    Trial.fault(2, "int f() { ^z = 1; int z; }");
    Trial.fault(2, "int f() { int z^[z]; return 0; }");
    Trial.right("int f() { int z = z, y = z; return y; }");
  }

  private static void order() {
    Sentence.says("It is looked at in the order of the text, inner before outer, left before right, an operator behind its operands, a call behind its arguments (a NAME in a call: whether it is a function, before them).");
    no("^x; y;");
    no("n = ^x + y;");
    no("(n + ^x) * y;");
    no("p * ^x;");
    no("p ^* p + x;");
    no("-^x;");
    no("^-p + x;");
    no("n + ^-p;");
    no("p[^x];");
    no("n[^x];");
    no("n^[1] + x;");
    no("^x[y];");
    no("f(^x);");
    no("^f(1) + x;");
    no("f(g(^x, 1));");
    no("f(^g(1, 1));");
    no("^n(x);");
    no("g(^n(x), y);");
    no("^x(y);");
    no("g(^x, y);");
    no("p ? ^x : y;");
    no("v() ? ^x : y;");
    no("n ? n : ^y;");
    no("n ^? p : n; x;");
    no("1 = ^x;");
    no("^x = y;");
    no("p ^= n; x;");
    no("++^x;");
    no("^++1 + x;");
    no("(int) ^x;");
    no("for (^x; y; z) u;");
    no("for (n; ^y; z) u;");
    no("for (n; n; ^z) u;");
    no("for (n; n; n) ^u;");
    no("^for (n; v(); z) u;");
    no("^if (v()) x;");
    no("if (^x) y; else z;");
    no("if (1) ^y; else z;");
    no("do ^x; while (v());");
    no("do ; ^while (v()); x;");
    no("return ^x; y;");
    no("^return p; x;");
    no("int i2 = ^x, y2 = y;");
    no("int i2 ^= p, y2 = y;");
    Trial.fault(2, "int y = ^x; int y;");
    Trial.fault(2, "int f() { return 0; } int ^f() { return x; }");
  }

  private static void functions() {
    Sentence.says("Of a function: whether its NAME may be declared so, then 4; of one with a body then its parameters (without a NAME: at the , or ) behind it; a NAME twice), then the body.");
    String full = many(99, "int z", ";") + "int f(); ";
    Trial.fault(2, full + "int ^f(int) { return 0; }");
    Trial.fault(4, full + "int ^s(int) { return x; }");
    Trial.fault(2, "int f(int^) { return x; }");
    Trial.fault(2, "int f(int^, int) { return x; }");
    Trial.fault(2, "int f(int x, int^) { return 0; }");
    Trial.fault(2, "int f(int *^, int x) { return 0; }");
    Trial.fault(2, "int f(int []^, int x) { return 0; }");
    Trial.fault(2, "int f(int x, int *[]^) { return 0; }");
    Trial.fault(2, "int f(int x, int ^x) { return y; }");
    Trial.fault(2, "int f(int x, int y, int *^x[], int) { return z; }");
    Trial.fault(2, "int f(int^, int x, int x) { return z; }");
    Trial.fault(2, "int f(int x, int ^x, int) { return z; }");
    Trial.fault(2, "int f(int x) { return ^y; }");
    Trial.right("int f(int f) { return f; }");
    Sentence.says("Of prototypes' parameters names are not looked at.");
    Trial.right("int f(int x, int x); int f(int y, int); int f(int, int); int f(int x, int y) { return x - y; } int f(int y, int y);");
    Trial.right("int x; int g(int x, int *g, int x[]);");
    Sentence.says("Of a variable: its NAME, 4, its size, then (it is declared now) what stands behind =, then the =.");
    Trial.fault(2, "int s; int ^s[0] = x;");
    Trial.fault(2, full + "int ^f[0] = x;");
    Trial.fault(4, full + "int ^s[0] = x;");
    Trial.fault(2, "int s^[0] = x;");
    Trial.fault(4, "int s^[4001] = x;");
    Trial.fault(2, "int s[1] = ^x;");
    Trial.fault(2, "int s[1] = { ^x, 1, 2 };");
    Trial.fault(2, "int s[1] ^= { 1, 2 };");
    Trial.fault(2, "extern int s = ^x;");
    Trial.fault(2, "extern int s ^= 1;");
    Trial.fault(2, "extern int s ^= s;");
    no("int ^c = x;");
    no("int ^i[0] = x;");
    no("int s^[0] = x;");
    no("int s[1] = { 1, ^x };");
    no("int s[1] ^= { 1, s };");
    String many = PRELUDE + many(95, "int z", ";");
    Trial.fault(4, many + " int ^s[0] = x; }");
    Trial.fault(2, many + " int ^i[0] = x; }");
    Sentence.says("Whether a variable's NAME may be declared is looked at with its size, if that is a right one (1 .. 4000), else as without one; then the [.");
    Trial.fault(2, "extern int s[3]; int ^s[2];");
    Trial.fault(2, "extern int s[3]; int ^s[4000];");
    Trial.fault(4, "extern int s[3]; int s^[4001];");
    Trial.fault(2, "extern int s[3]; int s^[0];");
    Trial.fault(2, "extern int s[3]; int s^[-1];");
    Trial.fault(2, "extern int s[3]; int s^[x];");
    Trial.fault(2, "extern int s[3]; int s^[];");
    Trial.fault(2, "extern int s; int ^s[0];");
    Trial.fault(2, "extern int s; int ^s[4001];");
    Trial.fault(2, "extern int *s[3]; int ^s[4001];");
    Trial.fault(2, "int s[3]; int ^s[4001];");
    Trial.fault(2, "static int s[3]; extern int ^s[0];");
    Trial.right("extern int s[3]; int s[3];");
    Trial.right("extern int s[1]; int s[1];");
    Trial.right("extern int s[4000]; int s[4000];");
    Trial.right("extern int s[]; int s[4000];");
  }

  private static String many(int n, String before, String after) {
    StringBuilder all = new StringBuilder();
    for (int i = 0; i < n; i++) {
      all.append(before).append(i).append(after);
    }
    return all.toString();
  }

  private static void names() {
    Sentence.says("Faults at a NAME: it means nothing; a function's without ( behind it; a call of what is no function; it is there already: in a function, in the same scope; outside, but for these: a function with the same result, parameters' types and static or not, if not both have bodies; variables of the same type of which at most one is not extern and none static (arrays: of the same size, or without one).");
    no("^x;");
    no("^x();");
    no("^f;");
    no("^f + 1;");
    no("&^f;");
    no("p = ^f;");
    no("(^f);");
    no("^n();");
    no("^p(1);");
    no("^a();");
    no("^i();");
    no("int f; ^f();");
    no("int ^i;");
    no("int ^c;");
    no("int ^r;");
    yes("int n, p, a, f, g; { int i, j, r; } return 0;");
    for (String linkage : new String[] {"", "extern "}) {
      Trial.right("int f(); " + linkage + "int f(void);");
      Trial.right(linkage + "int f(int, int *, int []); int f(int a, int b[], int *c) { return 0; }");
      Trial.right(linkage + "int *f(int **); int *f(int *a[]) { return *a; } " + linkage + "int *f(int **b);");
    }
    Trial.right("static void f(); static void f() { } static void f();");
    Trial.fault(2, "int f(); int *^f();");
    Trial.fault(2, "int f(); void ^f();");
    Trial.fault(2, "int *f(); int **^f();");
    Trial.fault(2, "int f(int); int ^f();");
    Trial.fault(2, "int f(); int ^f(int);");
    Trial.fault(2, "int f(int, int); int ^f(int, int *);");
    Trial.fault(2, "int f(int *, int); int ^f(int, int *);");
    Trial.fault(2, "int f(int, int, int, int, int, int, int, int); int ^f(int, int, int, int, int, int, int, int *);");
    Trial.fault(2, "int f(int, int, int, int, int, int, int, int); int ^f(int, int, int, int, int, int, int);");
    Trial.fault(2, "static int f(); int ^f();");
    Trial.fault(2, "static int f(); extern int ^f();");
    Trial.fault(2, "int f(); static int ^f();");
    Trial.fault(2, "extern int f(); static int ^f() { return 0; }");
    Trial.fault(2, "int f() { return 0; } int ^f() { return 0; }");
    Trial.fault(2, "int f() { return 0; } int f(); int ^f() { return 0; }");
    Trial.fault(2, "int f(); int ^f;");
    Trial.fault(2, "int f(); extern int ^f;");
    Trial.fault(2, "int f; int ^f();");
    Trial.fault(2, "extern int f; int ^f() { return 0; }");
    Trial.right("extern int s; extern int s; int s; extern int s;");
    Trial.right("extern int *s; int t, *s;");
    Trial.fault(2, "int s; int ^s;");
    Trial.fault(2, "extern int s; int s; extern int s; int ^s;");
    Trial.fault(2, "int s, ^s;");
    Trial.fault(2, "static int s; static int ^s;");
    Trial.fault(2, "static int s; extern int ^s;");
    Trial.fault(2, "static int s; int ^s;");
    Trial.fault(2, "extern int s; static int ^s;");
    Trial.fault(2, "int s; static int ^s;");
    Trial.fault(2, "extern int s; int *^s;");
    Trial.fault(2, "extern int *s; extern int **^s;");
    Trial.fault(2, "extern int s; int ^s[1];");
    Trial.fault(2, "extern int s[1]; int ^s;");
    Trial.fault(2, "extern int *s; int ^s[1];");
    Trial.fault(2, "extern int s[1]; int *^s[1];");
    Trial.right("extern int s[]; extern int s[3]; extern int s[]; int s[3]; extern int s[3]; extern int s[];");
    Trial.fault(2, "extern int s[]; extern int s[3]; extern int s[]; int ^s[2];");
    Trial.fault(2, "extern int s[3]; extern int ^s[4];");
    Trial.fault(2, "extern int s[1]; int ^s[2];");
    Trial.fault(2, "extern int s[]; int s[1]; extern int ^s[2];");
    Trial.fault(2, "extern int s[]; extern int s[1]; int ^s[2];");
    Trial.fault(2, "extern int s[2]; int ^s[1];");
    Trial.fault(2, "int s[4000]; extern int ^s[3999];");
    Trial.fault(2, "int s[1]; extern int ^s[4000];");
    Trial.fault(2, "int s[3]; extern int ^s[2];");
    Trial.fault(2, "int s[] = { 1, 2, 3 }; extern int ^s[2];");
    Trial.right("int s[] = { 1, 2, 3 }; extern int s[3];");
    Sentence.says("Library functions are declared like others; units may define such names as static, or as locals.");
    Trial.fault(2, "int main() { return ^get(); }");
    Trial.fault(2, "int main() { ^put(1); }");
    Trial.right("int get(void); void put(int c); void print(int); void stop(int x); int main() { put(get()); print(1); stop(2); }");
    Trial.right("int put; static int get; static int print() { return 1; } int f() { int stop = 2; return stop; }");
    Trial.gives(9, "static int get() { return 9; } int main() { return get(); }");
    Trial.gives(8, "static int put = 8; int main() { return put; }");
    Trial.gives(7, "void print(int); int main() { int print = 7; return print; }");
    Trial.fault(2, "void print(int); int main() { int print = 7; ^print(7); }");
  }

  private static void squares() {
    Sentence.says("Faults at a variable's [: its size is no CONSTANT, or below 1; no size without = (but extern).");
    Trial.right("int s[1]; extern int t[1]; extern int u[]; int x[] = { 1 };");
    for (String linkage : new String[] {"", "static ", "extern "}) {
      for (String size : new String[] {"0", "-1", "0x80000000", "1 - 1", "1 / 0", "1 && 1", "(int) 1", "x", "f()", "\"a\"[0]", "&x", "n", "n = 1", "1 ? 1 : 1", "n++"}) {
        Trial.fault(2, "int n; " + linkage + "int s^[" + size + "];");
      }
    }
    for (String size : new String[] {"0", "-1", "i", "1 || 1", "x", "i = 1", "f()"}) {
      no("int s^[" + size + "];");
      no("int s^[" + size + "] = { 1 };");
    }
    Trial.fault(2, "int s^[];");
    Trial.fault(2, "static int s^[];");
    no("int s^[];");
    Sentence.says("What is no CONSTANT as a size is told at the [ alone, whatever is wrong in it.");
    for (String size : new String[] {"x", "x()", "1 + x", "*1", "1 = 2", "&1", "v()", "p * p", "p[p]", "f(1, 2)", "1 / 0 + x", "1" + " + 1".repeat(60)}) {
      no("int s^[" + size + "]; y;");
      Trial.fault(2, "int *p; int f(); void v(); int s^[" + size + "]; int t = y;");
    }
    Trial.fault(2, "int s^[\"" + "x".repeat(200) + "\"];");
    Sentence.says("With = and no size that is the number of expressions in { }, or of a STRING's codes and 1 more (a STRING tells it only if it is all that stands there).");
    for (int n : new int[] {1, 2, 3, 100, 3999, 4000}) {
      Trial.due("cells of { } with " + n, cellsOf("int s[] = { 0" + ",0".repeat(n - 1) + " };"), n);
    }
    for (int n : new int[] {0, 1, 2, 199, 200}) {
      Trial.due("cells of a STRING with " + n, cellsOf("int s[] = \"" + "\\n".repeat(n) + "\";"), n + 1);
      Trial.due("cells of a STRING with " + n, cellsOf("int s[] = \"" + "x".repeat(n) + "\", t;"), n + 2);
    }
    Trial.fault(2, "int s[] ^= 1;");
    Trial.fault(2, "int s[] ^= (\"ab\");");
    Trial.fault(2, "int s[] ^= \"ab\" + 0;");
    Trial.fault(2, "int *s[] ^= \"ab\";");
    Trial.fault(2, "extern int *s[3]; int *s[] ^= \"ab\";");
    Trial.fault(2, "extern int *s[4]; int *^s[] = \"ab\";");
    Trial.fault(2, "extern int s[4]; int s[] ^= (\"ab\");");
    Trial.fault(2, "extern int s[4]; int ^s[] = \"ab\";");
    Sentence.says("The size of a [ ] with = is counted from the text before anything behind = is looked at.");
    Trial.fault(2, "extern int s[3]; int ^s[] = { x, y };");
    Trial.fault(2, "extern int s[3]; int s[] = { ^x, y, z };");
    Trial.fault(4, "int s^[] = { x" + ", 1".repeat(4000) + " };");
    Trial.fault(2, "int s[] = { ^x" + ", 1".repeat(3999) + " };");
    Trial.gives(3, Trial.main("int s[] = { &s[2] - s, 5, 1 }; return s[0] + s[2];"));
    Trial.fault(2, "extern int s[3]; extern int ^s[] = { 1, 2 };");
    Sentence.says("At the =: extern; what stands behind it does not fit.");
    Trial.fault(2, "extern int s ^= 1;");
    Trial.fault(2, "extern int s[2] ^= { 1 };");
    Trial.fault(2, "extern int s[] ^= \"a\";");
    Trial.fault(2, "int s ^= \"a\";");
    Trial.fault(2, "int *s ^= 1;");
    no("int s ^= p;");
    no("int *s ^= n;");
    no("int *s ^= q;");
    Sentence.says("A parameter with [ ] is a pointer.");
    Trial.gives(8, "int f(int s[]) { s++; s += 1; return *s; } int main() { int t[3] = { 6, 7, 8 }; return f(t); }");
    Trial.right("int f(int s[]) { int **t = &s; s = 0; return s == *t; } int g(int *s[]) { int **t = s; return t == s; }");
    Trial.fault(2, "int f(int s[]) { int *t ^= &s; return 0; }");
  }

  private static void constants() {
    Sentence.says("CONSTANTS (of a height to 60): numbers, and - ! ~ * / % + - << >> < > <= >= == != & ^ | of constants (but / % by 0).");
    String[][] values = {
      {"5", "5"}, {"-5", "-5"}, {"!5", "0"}, {"!0", "1"}, {"~5", "-6"}, {"6*7", "42"}, {"-7/2", "-3"}, {"-7%2", "-1"}, {"2+3", "5"}, {"2-3", "-1"},
      {"1<<33", "2"}, {"-8>>1", "-4"}, {"1<<-1", "-2147483648"}, {"1<2", "1"}, {"2<1", "0"}, {"1>2", "0"}, {"2>1", "1"}, {"1<=1", "1"}, {"2<=1", "0"},
      {"1>=1", "1"}, {"1>=2", "0"}, {"1==1", "1"}, {"1==2", "0"}, {"1!=1", "0"}, {"1!=2", "1"}, {"12&10", "8"}, {"12^10", "6"}, {"12|10", "14"},
      {"-1<0", "1"}, {"0x80000000/-1", "-2147483648"}, {"0x80000000%-1", "0"}, {"2147483647+1", "-2147483648"}, {"0x10000*0x10000", "0"},
      {"'a'", "97"}, {"((3))", "3"}, {"(1+2)*3", "9"}, {"0/5", "0"}, {"-0x80000000", "-2147483648"}, {"1-0x80000000", "-2147483647"},
    };
    for (String[] value : values) {
      int want = Integer.parseInt(value[1]);
      Trial.gives(want, "int s = " + value[0] + "; int main() { return s; }");
      Trial.gives(want, Trial.main("return " + value[0] + ";"));
      int cells = (want & 1023) + 1;
      Trial.due("cells of [" + value[0] + "]", cellsOf("int s[(" + value[0] + " & 1023) + 1];"), cells);
    }
    for (String none : new String[] {"1 / 0", "1 % 0", "0 / 0", "1 / (1 - 1)", "1 && 1", "0 || 1", "1 ? 2 : 3", "(int) 1", "n", "n = 1", "\"a\"[0]", "f()",
        "1 + n", "-n", "!n", "p == 0", "!p", "a == a", "a - a", "n++"}) {
      Trial.fault(2, "int n; int *p; int a[2]; int f(); int s ^= " + none + ";");
      Trial.fault(2, "int n; int *p; int a[2]; int f(); int s[2] ^= { 1, " + none + " };");
      Trial.fault(2, "int n; int *p; int a[2]; int f(); int s^[" + none + "];");
    }
    Trial.right("int s[1" + " + 1".repeat(59) + "]; int t = 1" + " + 1".repeat(59) + ";");
    Trial.fault(2, "int s^[1" + " + 1".repeat(60) + "];");
    Trial.fault(4, "int t = 1" + " + 1".repeat(59) + " ^+ 1;");
    Trial.fault(2, "int s^[-(1" + " + 1".repeat(59) + ")];");
    Trial.right("int s[(((1" + " + 1".repeat(59) + ")))];");
  }

  private static void initials() {
    Sentence.says("WHAT STANDS BEHIND =: of an int or pointer an expression that fits; outside of functions for an int a constant, for a pointer the NUMBER 0, a STRING, an array's NAME, & NAME of a variable, and such a pointer + or - a constant (or a constant +).");
    yes("int s = n + f() * 2, *t = j, **u = &t, *w2 = 0, *x = a, *y = \"s\", *z = (int *) 5, r2 = a - p; return 0;");
    no("int s ^= p;");
    no("int *s ^= n;");
    no("int *s ^= 1;");
    no("int *s ^= 0 + 0;");
    no("int **s ^= p;");
    String u = "int n; int *p; int a[4]; int *b[2]; extern int e; extern int m[]; static int s[2]; int f(); ";
    Trial.right(u + "int *x = 0, *y = \"s\", *z = a, *a1 = m, *a2 = s, *a3 = &n, *a4 = &e, **a5 = &p, **a6 = b;");
    Trial.right(u + "int *x = '\\0', *y = 0x0, *z = (0), *a1 = (a), *a2 = (&n), *a3 = &(n), *a4 = (\"s\");");
    Trial.right(u + "int *x = \"s\" + 1, *y = 1 + \"s\", *z = \"s\" - 1, *a1 = a + 1, *a2 = 1 + a, *a3 = a - 1, *a4 = &n + 1, *a5 = 1 + &n, *a6 = &n - -1;");
    Trial.right(u + "int *x = a + (2 * 3 - 1), *y = (2 * 3) + a, *z = a + 5 - 5, *a1 = 1 + (2 + a), *a2 = a + 100000, **a3 = b + 1;");
    for (String none : new String[] {"1", "0 + 0", "-0", "!1", "n", "p", "e", "f()", "(int *) 0", "&a[1]", "&*a", "&m[0]", "a + n", "n + a", "p + 1", "1 - a",
        "a ? a : a", "1 ? a : 0", "\"s\"[0]", "b", "&p", "b + 1", "a - a", "a == a", "!a", "*b", "p++", "p = 0", "a && a", "-1"}) {
      String bad = none.equals("1 - a") ? "1 ^- a" : null;
      if (bad == null) {
        Trial.fault(2, u + "int *x ^= " + none + ";");
        Trial.fault(2, u + "int *x[2] ^= { 0, " + none + " };");
      } else {
        Trial.fault(2, u + "int *x = " + bad + ";");
      }
    }
    for (String none : new String[] {"a", "\"s\"", "&n", "p", "n", "f()", "a + 1", "e", "(int) a", "*a", "a[0]"}) {
      Trial.fault(2, u + "int x ^= " + none + ";");
    }
    Sentence.says("& NAME in an initial outside of functions is of a variable outside of functions that is no array.");
    Trial.fault(2, u + "int *x = ^&a;");
    Trial.fault(2, u + "int *x = &^f;");
    Trial.fault(2, u + "int *x = ^&m;");
    Trial.fault(2, u + "int *x = &^unknown;");
    Trial.fault(2, u + "int *x = ^&1;");
    Trial.gives(4, "int n = 4; static int *x = &n; int main() { int n = 5; return *x; }");
    Sentence.says("Of an array { } with as many such as it has cells, or fewer (others become 0); of an array of ints also a STRING with as many codes (the last 0 may lack), or fewer.");
    for (String where : new String[] {"", "int f() { "}) {
      String end = where.isEmpty() ? "" : " return 0; }";
      Trial.right(where + "int x[3] = { 1 };" + end);
      Trial.right(where + "int x[3] = { 1, 2 };" + end);
      Trial.right(where + "int x[3] = { 1, 2, 3 };" + end);
      Trial.fault(2, where + "int x[3] ^= { 1, 2, 3, 4 };" + end);
      Trial.right(where + "int x[1] = { 1 };" + end);
      Trial.fault(2, where + "int x[1] ^= { 1, 2 };" + end);
      Trial.right(where + "int x[3] = \"\";" + end);
      Trial.right(where + "int x[3] = \"ab\";" + end);
      Trial.right(where + "int x[3] = \"abc\";" + end);
      Trial.fault(2, where + "int x[3] ^= \"abcd\";" + end);
      Trial.right(where + "int x[1] = \"\";" + end);
      Trial.right(where + "int x[1] = \"a\";" + end);
      Trial.fault(2, where + "int x[1] ^= \"ab\";" + end);
      Trial.right(where + "int x[2] = \"\\n\\\"\";" + end);
      Trial.fault(2, where + "int x[2] ^= \"\\n\\\"\\\\\";" + end);
      Trial.fault(2, where + "int *x[3] ^= \"ab\";" + end);
      Trial.right(where + "int *x[3] = { \"ab\", 0 };" + end);
      Trial.fault(2, where + "int *x[3] ^= { \"ab\", 1 };" + end);
      Trial.fault(2, where + "int x[3] ^= { 1, \"ab\" };" + end);
    }
    Trial.gives(6, "int x[4] = { 1, 2, 3 }; int y[2] = { 9, 9 }; int main() { return x[0] + x[1] + x[2] + x[3]; }");
    Trial.gives('c', "int x[3] = \"abc\"; int y; int main() { return x[2] + y; }");
    Trial.gives('b', "int x[3] = \"ab\"; int main() { return x[1] + x[2]; }");
    Trial.gives(0, "int x[3] = \"\"; int main() { return x[0] + x[1] + x[2]; }");
    Sentence.says("A STRING for an array stands there without brackets.");
    Trial.right("int x[3] = \"ab\"; int f() { int y[3] = \"ab\"; return 0; }");
    Trial.fault(2, "int x[3] ^= (\"ab\");");
    Trial.fault(2, "int x[3] ^= { \"ab\" };");
    no("int x[3] ^= (\"ab\");");
    no("int x[3] ^= ((\"ab\"));");
    Sentence.says("An int = { .. } and an array = another expression: faults at the =.");
    Trial.fault(2, "int x ^= { 1 };");
    Trial.fault(2, "int *x ^= { 0 };");
    Trial.fault(2, "int x[1] ^= 1;");
    Trial.fault(2, "int y[1]; int x[1] ^= y;");
    Trial.fault(2, "int x[] ^= 0;");
    no("int x ^= { 1 };");
    no("int *x ^= { p };");
    no("int x[4] ^= a;");
    no("int x[4] ^= 0;");
    no("int *x[4] ^= b;");
    no("int x = { ^unknown };");
    no("int x[1] = ^unknown;");
  }

  private static void expressions() {
    Sentence.says("Expressions: a NAME of an array is a pointer to its first cell (no place); a STRING a pointer to its first cell: its codes and a 0, cells of the unit's own, each STRING its own.");
    yes("p = a; p = c; q = b; l = b; p = \"s\"; return a == &a[0];");
    no("a ^= p;");
    no("c ^= p;");
    no("^&a;");
    no("^&c;");
    no("^&\"s\";");
    no("\"s\" ^= p;");
    no("a^++;");
    no("^--c;");
    no("a ^+= 1;");
    Trial.gives(1, Trial.main("return \"ab\" != \"ab\";"));
    Trial.gives('b', Trial.main("int *p = \"ab\"; return p[1] + p[2];"));
    Trial.gives('x', Trial.main("int *p = \"ab\"; p[1] = 'x'; return p[1];"));
    Trial.gives(2, Trial.main("int n = 0; int *p; int *l = 0; for (;;) { p = \"ab\"; if (p == l) n++; l = p; if (n == 2) return n; }"));
    Sentence.says("(A STRING that fills an array is no expression, and has no cells of its own.)");
    Trial.due("cells", cellsOf("int x[5] = \"abc\";"), 5);
    Trial.due("cells", cellsOf("int f() { int x[5] = \"abc\"; int y[] = \"abc\"; return 0; }"), 0);
    Trial.due("cells", cellsOf("int f() { \"abc\"; int *y = \"abc\"; return 0; }"), 8);
    Trial.due("cells", cellsOf("int *x[] = { \"abc\", \"\" };"), 2 + 4 + 1);
  }

  private static void places() {
    Sentence.says("PLACES: a variable that is no array, * p, a [ b ].");
    for (String place : new String[] {"n", "i", "*p", "a[1]", "(n)", "*(p + 1)", "**q", "b[1][2]", "*a", "*h()", "h()[1]", "*\"s\"", "\"s\"[0]", "e", "m[0]"}) {
      yes(place + " = 1; " + place + " += 1; ++" + place + "; (" + place + ")--; &" + place + "; return 0;");
    }
    for (String none : new String[] {"1", "f()", "(n + 1)", "(n = 1)", "(int) n", "(n ? n : n)", "(n += 1)", "(n && n)", "'c'", "n++"}) {
      String open = none.equals("(int) n") ? "((int) n)" : none;
      no(open + " ^= 1;");
      no(open + " ^+= 1;");
      no("^&" + open + ";");
      no("^++" + open + ";");
      no(open + "^--;");
    }
    no("^&-n;");
    no("^&!n;");
    no("^& &n;");
    no("^&++n;");
    no("&n ^= p;");
    no("-n ^= 1;");
  }

  private static void unarySigns() {
    Sentence.says("unary -, ~: int.");
    yes("-n; ~n; -1; -~n; return 0;");
    for (String sign : new String[] {"-", "~"}) {
      no("^" + sign + "p;");
      no("^" + sign + "a;");
      no("^" + sign + "\"s\";");
      no("^" + sign + "v();");
      no("^" + sign + "&n;");
    }
    Sentence.says("!: any, int.");
    yes("!n; !p; !a; !\"s\"; !!p; n = !p; return -!q;");
    no("^!v();");
    no("^*!p;");
    Sentence.says("*: a pointer: its cell, one star less.");
    yes("*p; **q; *a; **b; *\"s\"; n = *p; p = *q; return 0;");
    no("^*n;");
    no("^*1;");
    no("^*v();");
    no("^*0;");
    no("n ^= *q;");
    no("p ^= *p;");
    Sentence.says("&: a place, one star more (above 9: a fault).");
    yes("p = &n; q = &p; p = &*p; p = &a[1]; q = &b[0]; &r; return 0;");
    no("p ^= &p;");
    no("q ^= &n;");
    no("^&1;");
    no("^&v();");
    yes("*******&r = 1; return ******(*&r);");
    Sentence.says("++, --: a place (pointers by one cell).");
    yes("n++; ++p; q--; --a[1]; (*p)++; p = p++; n = n--; return 0;");
    Trial.gives(2, Trial.main("int a[3]; int *p = a; p++; ++p; return p - a;"));
    Trial.gives(-2, Trial.main("int *b[3]; int **p = b; p--; --p; return p - b;"));
    no("1^++;");
    no("^--f();");
    no("a^--;");
    no("v()^++;");
    Sentence.says("casts: any to any.");
    yes("(int) n; (int) p; (int *) n; (int **) p; (int *) q; (int *****) 0; (int) a; (int) \"s\"; p = (int *) 5; n = (int) q; return 0;");
    no("^(int) v();");
    no("^(int *) v();");
    no("p ^= (int **) p;");
    Sentence.says("[ ]: a pointer and an int: * (a + b).");
    yes("p[0]; p[n]; a[n]; q[0][0]; \"s\"[1]; b[n][n]; (p + 1)[-1]; return 0;");
    no("n^[0];");
    no("0^[a];");
    no("p^[p];");
    no("p^[v()];");
    no("v()^[0];");
    no("p[0]^[0];");
    Trial.gives(5, Trial.main("int a[3] = { 3, 4, 5 }; return (a + 1)[1] + a[1] - (a + 2)[-1];"));
  }

  private static void binarySigns() {
    String[] wrongPairs = {"p # n", "n # p", "p # p", "v() # n", "n # v()", "a # n", "n # \"s\""};
    Sentence.says("* / % & ^ | << >>: ints.");
    for (String sign : new String[] {"*", "/", "%", "&", "^", "|", "<<", ">>"}) {
      yes("n " + sign + " 3; f() " + sign + " *p; return 0;");
      for (String pair : wrongPairs) {
        fault(pair.replace("#", "@" + sign));
      }
    }
    Sentence.says("+: ints, a pointer and an int, an int and a pointer;");
    yes("n + 1; p + 1; 1 + p; a + n; n + q; p = 1 + p + 1; n = 1 + 1; return 0;");
    no("p ^+ p;");
    no("a ^+ p;");
    no("p ^+ q;");
    no("n ^+ v();");
    no("v() ^+ p;");
    no("n ^= p + 1;");
    Sentence.says("-: ints, a pointer and an int, two of the same pointer type (int: cells between).");
    yes("n - 1; p - 1; p - j; a - p; q - l; n = p - p; p = p - 1; return 0;");
    no("1 ^- p;");
    no("p ^- q;");
    no("a ^- b;");
    no("n ^- v();");
    no("p ^= p - p;");
    Trial.gives(-3, Trial.main("int a[4]; return a - &a[3];"));
    Trial.gives(2, Trial.main("int **b[4]; return &b[3] - &b[1];"));
    Sentence.says("< > <= >=: two ints or two of the same pointer type (as numbers without sign);");
    for (String sign : new String[] {"<", ">", "<=", ">="}) {
      yes("n = n " + sign + " 1; n = p " + sign + " a; n = q " + sign + " b; return 0;");
      for (String pair : new String[] {"p # n", "n # p", "p # q", "p # 0", "0 # p", "v() # v()", "v() # 1"}) {
        fault(pair.replace("#", "@" + sign));
      }
    }
    Trial.gives(0b0101, Trial.main("int *x = (int *) -1, *y = (int *) 1; return (x < y) << 3 | (x > y) << 2 | (x <= y) << 1 | (x >= y);"));
    Trial.gives(0b1010, Trial.main("int x = -1, y = 1; return (x < y) << 3 | (x > y) << 2 | (x <= y) << 1 | (x >= y);"));
    Trial.gives(0b0101, Trial.main("int *x = (int *) 0x80000000, *y = (int *) 0x7fffffff; return (x < y) << 3 | (x > y) << 2 | (x <= y) << 1 | (x >= y);"));
    Trial.gives(0b0011, Trial.main("int *x = (int *) -1, *y = (int *) -1; return (x < y) << 3 | (x > y) << 2 | (x <= y) << 1 | (x >= y);"));
    Trial.gives(0b1010, Trial.main("int *x = (int *) 0, *y = (int *) -1; return (x < y) << 3 | (x > y) << 2 | (x <= y) << 1 | (x >= y);"));
    Sentence.says("== !=: likewise, or a pointer and the NUMBER 0 (one that is worth 0; brackets around it do not count).");
    for (String sign : new String[] {"==", "!="}) {
      yes("n = n " + sign + " 1; n = p " + sign + " a; n = p " + sign + " 0; n = 0 " + sign + " q; n = p " + sign + " '\\0'; n = p " + sign + " 0x0; n = p " + sign + " ((0)); n = p " + sign + " 00; return 0;");
      for (String pair : new String[] {"p # n", "n # p", "p # q", "p # 1", "1 # p", "p # 0 + 0", "p # -0", "p # !1", "p # (int) 0", "p # (0 ? 0 : 0)", "v() # v()", "v() # 0", "0 # v()"}) {
        fault(pair.replace("#", "@" + sign));
      }
    }
    Sentence.says("&& ||: any, int.");
    yes("n = n && p; n = a || n; n = p && 0; n = q || \"s\"; return (p && p) * 2;");
    no("v() ^&& 1;");
    no("1 ^|| v();");
    no("p ^= p && p;");
    Sentence.says("? : any first; then two of the same type, or a pointer and the NUMBER 0.");
    yes("n = n ? 1 : 2; n = p ? 1 : 2; p = a ? p : j; p = n ? p : 0; p = n ? (0) : p; q = n ? '\\0' : b; n = n ? 0 : 0; return 0;");
    no("n ^? p : n;");
    no("n ^? p : q;");
    no("n ^? p : 1;");
    no("n ^? 1 : p;");
    no("n ^? p : 0 + 0;");
    no("n ^? v() : v();");
    no("n ^? v() : 1;");
    no("n ^? 1 : v();");
    no("v() ^? 1 : 1;");
    no("p ^= n ? 0 : 0;");
    no("n ^= n ? p : 0;");
  }

  /** A fault 2 at the byte behind @, which may be any sign. */
  private static void fault(String marked) {
    int at = PRELUDE.length() + marked.indexOf('@');
    Trial.faultAt(2, at, PRELUDE + marked.replace("@", "") + "; }");
  }

  private static void assignments() {
    Sentence.says("=: a place, and what FITS it: the same type, or the NUMBER 0 to a pointer.");
    yes("n = 1; p = j; q = b; p = 0; q = (0); *q = 0; n = 0; p = '\\0'; return 0;");
    no("n ^= p;");
    no("p ^= n;");
    no("p ^= 1;");
    no("p ^= q;");
    no("q ^= p;");
    no("p ^= 0 + 0;");
    no("p ^= !1;");
    no("n ^= v();");
    no("p ^= v();");
    no("v() ^= 0;");
    Sentence.says("+= -=: int, or a pointer and an int; the others: ints.");
    for (String sign : new String[] {"+=", "-="}) {
      yes("n " + sign + " 1; p " + sign + " n; q " + sign + " 1; *p " + sign + " *p; return 0;");
      for (String pair : new String[] {"n # p", "p # p", "p # q", "p # v()", "n # v()", "a # 1", "1 # 1", "v() # 1"}) {
        fault(pair.replace("#", "@" + sign));
      }
    }
    for (String sign : new String[] {"*=", "/=", "%=", "&=", "|=", "^=", "<<=", ">>="}) {
      yes("n " + sign + " 1; *p " + sign + " n; return 0;");
      for (String pair : new String[] {"p # 1", "n # p", "p # p", "n # v()", "1 # 1", "q # 0", "p # 0"}) {
        fault(pair.replace("#", "@" + sign));
      }
    }
    Sentence.says("The value of an assignment is what was put.");
    Trial.gives(12, Trial.main("int x; int y = 5; return (x = 7) + (y += 0) + (x -= 7);"));
    Trial.gives(3, Trial.main("int a[4] = { 0, 1, 2, 3 }; int *p; return *((p = a) + 3);"));
    Trial.gives(2, Trial.main("int a[4] = { 0, 1, 2, 3 }; int *p = a; return *(p += 2);"));
    yes("n = i = 3; p = j = 0; q = l = b; p = (j = 0) + 1; return 0;");
    no("n ^= p = 0;");
    no("(n = 1) ^= 2;");
    Sentence.says("Of an assignment: the left side, the right side, whether that is a place, whether it fits (both at the sign).");
    no("^x = y;");
    no("1 = ^y;");
    no("1 ^= p;");
    no("n ^= p;");
    no("a = ^y;");
    no("^x += y;");
    no("1 += ^y;");
    no("1 ^*= p;");
  }

  private static void calls() {
    Sentence.says("Calls: as many arguments as parameters, fitting.");
    String eight = "int s(int a, int b, int c, int d, int e, int f, int g, int *h) { return 0; } int t() { ";
    Trial.right(eight + "return s(1, 2, 3, 4, 5, 6, 7, 0); }");
    Trial.fault(2, eight + "return ^s(1, 2, 3, 4, 5, 6, 7); }");
    Trial.fault(2, eight + "return ^s(1, 2, 3, 4, 5, 6, 7, 0, 9); }");
    Trial.fault(2, eight + "return ^s(1, 2, 3, 4, 5, 6, 7, 8); }");
    Trial.fault(2, eight + "return ^s(); }");
    yes("f(); g(1, p); g(n, 0); g(1, a); g(1, \"s\"); w(1); h(); return 0;");
    no("^f(1);");
    no("^w();");
    no("^w(1, 2);");
    no("^w(p);");
    no("^g(1, 1);");
    no("^g(p, p);");
    no("^g(1, q);");
    no("^g(1, 0 + 0);");
    no("^g(1, p, 3);");
    Sentence.says("A void call has no value: it goes as a statement, or as first or last of a for.");
    yes("v(); w(1); for (v(); n; v()) ; for (w(1); ; w(2)) ; if (n) v(); else w(1); while (n) v(); do v(); while (n); return 0;");
    no("n ^= v();");
    no("n ^+ v();");
    Sentence.says("Brackets around a void call count for nothing.");
    yes("(v()); ((w(1))); for ((v()); n; ((v()))) ; return 0;");
    no("n ^= (v());");
    no("^return ((v()));");
    no("^if ((v())) ;");
    no("^w((v()));");
    Sentence.says("A void call where a value is wanted is a fault at what takes it (as an argument at the outer call's NAME, behind return and as a condition at the word, behind a variable's = at that).");
    no("^w(v());");
    no("^g(1, v());");
    no("w(^g(1, v()));");
    no("^return v();");
    no("^if (v()) ;");
    no("^while (v()) ;");
    no("^for (; v(); ) ;");
    no("do ; ^while (v());");
    no("int x ^= v();");
    no("int *x ^= v();");
    no("int x[2] ^= { 1, v() };");
    no("int x[2] ^= v();");
    Trial.fault(2, "void v(); int x ^= v();");
    Trial.fault(2, "void v(); int x[2] ^= { v() };");
    no("a^[v()];");
    no("v()^[0];");
    no("^-v();");
    no("^(int) v();");
    no("v() ^? 1 : 2;");
    Sentence.says("return: with a fitting expression in a function that has a result, without one in a void one.");
    Trial.right("int f() { return 1; } int *g() { return 0; } int *h(int *p) { return p; } void k() { return; } int l() { } void m() { }");
    Trial.fault(2, "int f() { ^return; }");
    Trial.fault(2, "int *f() { ^return; }");
    Trial.fault(2, "void f() { ^return 1; }");
    Trial.fault(2, "void f() { ^return 0; }");
    Trial.fault(2, "void f() { ^return f(); }");
    Trial.fault(2, "int *f() { ^return 1; }");
    Trial.fault(2, "int *f() { ^return 0 + 0; }");
    Trial.fault(2, "int f(int *p) { ^return p; }");
    Trial.fault(2, "int *f(int **p) { ^return p; }");
    Sentence.says("break and continue: in a loop.");
    for (String word : new String[] {"break", "continue"}) {
      yes("while (1) " + word + "; do " + word + "; while (1); for (;;) " + word + "; while (1) { if (n) { { " + word + "; } } } return 0;");
      no("^" + word + ";");
      no("if (n) ^" + word + ";");
      no("{ { ^" + word + "; } }");
      no("while (1) ; ^" + word + ";");
      no("for (;;) { " + word + "; } ^" + word + ";");
      no("do { " + word + "; } while (1); ^" + word + ";");
    }
    Sentence.says("Conditions: int or pointer.");
    yes("if (n) ; if (p) ; while (q) ; do ; while (a); for (; \"s\"; ) ; for (; 0; ) ; return 0;");
    no("^if (v()) ;");
    no("^while (w(1)) ;");
  }

  private static void where() {
    Sentence.says("Faults are at the operator (of a call at its NAME, of ? : at the ?, of a condition at its statement's word (of do: while), of break, continue, return at that word).");
    no("n + (p ^<<= 2);");
    no("n + ^g(1, 2);");
    no("n + (n ^? p : 1);");
    no("{ ^if (v()) ; }");
    no("n = 1; ^while (v()) { }");
    no("for (;;) { do { } ^while (v()); }");
    no("^for (v(); v(); v()) ;");
    no("{ ^break; }");
    no("{ ^continue; }");
    no("{ ^return; }");
    no("n + p^[p];");
    no("n + ^(int) v();");
  }

  private static void further() {
    Sentence.says("A unit's data have at most 16000 cells: else 4, at the NAME of the variable (behind its size) or at the STRING that gets them.");
    String four = "int a[4000], b[4000], c[4000], ";
    Trial.right(four + "d[4000];");
    Trial.right(four + "d[3999], e; extern int x, y[4000]; int f() { int z[4000]; return 0; }");
    Trial.fault(4, four + "d[4000], ^e;");
    Trial.fault(4, four + "d[4000]; static int ^e;");
    Trial.fault(4, four + "d[4000]; extern int e; int ^e;");
    Trial.right(four + "d[3998], e[2];");
    Trial.fault(4, four + "d[3998], ^e[3];");
    Trial.fault(4, four + "d[3998], ^e[] = { 1, 2, 3 };");
    Trial.right(four + "d[3998], e[] = \"a\";");
    Trial.fault(4, four + "d[3998], ^e[] = \"ab\";");
    Trial.fault(2, four + "d[3998], e^[0];");
    Trial.fault(2, four + "d[4000], ^a;");
    Trial.right(four + "d[3997], *e = \"a\";");
    Trial.fault(4, four + "d[3998], *e = ^\"a\";");
    Trial.right(four + "d[3998]; int f() { return \"a\"[0]; }");
    Trial.fault(4, four + "d[3999]; int f() { return ^\"a\"[0]; }");
    Trial.right(four + "d[3999]; int f() { return \"\"[0]; }");
    Trial.fault(4, four + "d[3999]; int f() { return \"\"[0] + ^\"\"[x]; }");
    Trial.right(four + "d[4000]; int f() { int x[] = \"abc\"; return 0; }");
    Trial.fault(4, four + "d[4000]; int f() { int *x[] = ^\"abc\"; return 0; }");
    Sentence.says("A static function without a body that is called: 2 at the first NAME of such a call, behind all else.");
    Trial.fault(2, "static int s(); int f() { return ^s(); }");
    Trial.fault(2, "static int s(); static int t(int x); int f() { return ^t(s()) + s() + t(1); }");
    Trial.fault(2, "static int s(); static int t(int x); int f() { return ^s() + t(s()); }");
    Trial.fault(2, "static int s(); int f() { return s(); } int g() { return ^x; }");
    Trial.fault(4, "static int s(); int f() { return s(); } int x^[4001];");
    Trial.fault(2, "static int s(); int f() { if (0) 0 && ^s(); }");
    Trial.right("static int s(); int f() { return s(); } static int s() { return 1; }");
    Trial.right("static int s(); int f() { return 1; }");
    Trial.right("static int s(); int f() { int s = 1; return s; }");
    Trial.right("int s(); int f() { return s(); }");
    Trial.fault(2, "static int s(); int f() { s(); return ^t; }");
  }
}
