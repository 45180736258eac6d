/** Term 1: what is a unit, and how deep it may be (promises 4 and 5). */
public final class GrammarTest {
  public static void main(String[] args) {
    items();
    functions();
    variables();
    statements();
    expressions();
    depthOfStatements();
    depthOfExpressions();
    faultOneIsFirst();
    Trial.finish("GrammarTest");
  }

  private static void items() {
    Trial.right("int a; static int b; extern int c; int f(); static int g(); extern int h(); void k();");
    Trial.right("extern int f() { return 1; } static void g(void) { }");
    Trial.fault(1, "^;");
    Trial.fault(1, "int a; ^}");
    Trial.fault(1, "static ^extern int a;");
    Trial.fault(1, "static ^static int a;");
    Trial.fault(1, "static ^a;");
    Trial.fault(1, "^a;");
    Trial.fault(1, "void ^*f();");
    Trial.fault(1, "void a^;");
    Trial.fault(1, "void a^= 1;");
    Trial.fault(1, "int ^;");
    Trial.faultAt(1, 3, "int");
    Trial.faultAt(1, 4, "int ");
    Trial.faultAt(1, 5, "int a");
    Trial.faultAt(1, 10, "int a; int");
    Trial.faultAt(1, 6, "extern");
    Trial.fault(1, "int f()^, g();");
    Trial.fault(1, "int a, f^();");
    Trial.fault(1, "int f() { } ^;");
  }

  private static void functions() {
    Trial.right("int f(int a, int *b, int c[], int *d[]) { return 0; }");
    Trial.right("int f(int, int *, int [], int *****[], int **x);");
    Trial.right("int f(int a, int b, int c, int d, int e, int f, int g, int h) { return a + h; }");
    Trial.fault(1, "int f(int, int, int, int, int, int, int, int, ^int);");
    Trial.fault(1, "int f(int a, int b, int c, int d, int e, int f, int g, int h, ^int i) { }");
    Trial.fault(1, "int f(int,^);");
    Trial.fault(1, "int f(^,);");
    Trial.fault(1, "int f(void ^x);");
    Trial.fault(1, "int f(int, ^void);");
    Trial.fault(1, "int f(void^, int);");
    Trial.fault(1, "int f(int a[^3]);");
    Trial.fault(1, "int f(int a ^b);");
    Trial.fault(1, "int f(int *****^*a);");
    Trial.fault(1, "int *****^*f();");
    Trial.fault(1, "int f() ^int a;");
    Trial.fault(1, "int f(^a) { }");
    Trial.fault(1, "int f(int a ^= 1);");
    Trial.faultAt(1, 11, "int f(int a");
    Trial.faultAt(1, 7, "int f()");
    Trial.faultAt(1, 9, "int f() {");
  }

  private static void variables() {
    Trial.right("int a, *b, **c, ***d, ****e, *****f, g[3], *h[2], i = 3, j[] = { 1, 2 }, k[] = \"x\";");
    Trial.fault(1, "int a, ^int b;");
    Trial.fault(1, "int *****^*a;");
    Trial.fault(1, "int a, *****^*b;");
    Trial.fault(1, "int a,^;");
    Trial.fault(1, "int a[3^;");
    Trial.fault(1, "int a[3]^[4];");
    Trial.fault(1, "int a[] = {^};");
    Trial.fault(1, "int a[] = { 1,^};");
    Trial.fault(1, "int a[] = { 1 ^2 };");
    Trial.fault(1, "int a[] = { ^{ 1 } };");
    Trial.fault(1, "int a = ^;");
    Trial.fault(1, "int a ^+= 1;");
    Trial.fault(1, "int a = 1 ^b;");
    Trial.fault(1, "int ^(a);");
    Trial.faultAt(1, 11, "int a[] = {");
  }

  private static void statements() {
    Trial.right(Trial.main("{ } ; { ; ; } if (1) ; else ; while (0) ; do ; while (0); for (;;) break; return 0;"));
    Trial.right(Trial.main("if (1) int a; else int a = 3; while (0) int a; return 0;"));
    Trial.right(Trial.main("if (1) if (0) ; else ; else ; return 0;"));
    Trial.fault(1, Trial.main("^else ;"));
    Trial.fault(1, Trial.main("if (1) ; else ; ^else ;"));
    Trial.fault(1, Trial.main("if ^1 ;"));
    Trial.fault(1, Trial.main("if (^) ;"));
    Trial.fault(1, Trial.main("if (1^;"));
    Trial.fault(1, Trial.main("while (^) ;"));
    Trial.fault(1, Trial.main("do ; ^until (0);"));
    Trial.fault(1, Trial.main("do ; while (0) ^return 0;"));
    Trial.fault(1, Trial.main("for (;^) ;"));
    Trial.fault(1, Trial.main("for (^int i = 0;;) ;"));
    Trial.fault(1, Trial.main("for (;;^;) ;"));
    Trial.fault(1, Trial.main("break ^1;"));
    Trial.fault(1, Trial.main("continue^}"));
    Trial.fault(1, Trial.main("return 1 ^2;"));
    Trial.fault(1, Trial.main("^static int a;"));
    Trial.fault(1, Trial.main("^extern int a;"));
    Trial.fault(1, Trial.main("^void f();"));
    Trial.fault(1, Trial.main("int f^();"));
    Trial.fault(1, "int main() { 1 ^}");
    Trial.fault(1, "int main() { int a ^}");
    Trial.faultAt(1, 16, "int main() { ; ;");
  }

  private static void expressions() {
    Trial.gives(14, Trial.main("return 2 + 3 * 4;"));
    Trial.gives(20, Trial.main("return (2 + 3) * 4;"));
    Trial.gives(5, Trial.main("return 10 - 3 - 2;"));
    Trial.gives(8, Trial.main("return 100 / 6 / 2;"));
    Trial.gives(3, Trial.main("return 17 % 10 % 4;"));
    Trial.gives(-12, Trial.main("return -3 * 4;"));
    Trial.gives(32, Trial.main("return 1 << 2 + 3;"));
    Trial.gives(1, Trial.main("return 1 << 1 > 1;"));
    Trial.gives(0, Trial.main("return 3 > 2 > 1;"));
    Trial.gives(1, Trial.main("return 3 > 2 == 1;"));
    Trial.gives(0, Trial.main("return 6 & 4 == 4;"));
    Trial.gives(6, Trial.main("return 7 ^ 3 & 1;"));
    Trial.gives(7, Trial.main("return 1 | 6 ^ 0;"));
    Trial.gives(1, Trial.main("return 0 && 0 || 1;"));
    Trial.gives(1, Trial.main("return 1 || 0 && 0;"));
    Trial.gives(3, Trial.main("return 1 ? 0 ? 2 : 3 : 4;"));
    Trial.gives(5, Trial.main("return 0 ? 1 : 0 ? 2 : 5;"));
    Trial.gives(9, Trial.main("int a; int b; a = b = 9; return a;"));
    Trial.gives(4, Trial.main("int a = 1; return 1 ? a = 4 : 5;"));
    Trial.gives(-2, Trial.main("int a = 1; return - ++ a;"));
    Trial.gives(5, Trial.main("int a[3] = { 4, 5, 6 }; int *p = a; return *++p + !*p;"));
    Trial.fault(1, Trial.main("return (1^;"));
    Trial.fault(1, Trial.main("return 1 + ^;"));
    Trial.fault(1, Trial.main("return ^+1;"));
    Trial.fault(1, Trial.main("return 1 ? 2^;"));
    Trial.fault(1, Trial.main("return 1 ^: 2;"));
    Trial.fault(1, Trial.main("return (int ^+) 1;"));
    Trial.fault(1, Trial.main("return (int *****^*) 1;"));
    Trial.fault(1, Trial.main("return (^void) 1;"));
    Trial.fault(1, Trial.main("return (main)^();"));
    Trial.fault(1, Trial.main("return main()^();"));
    Trial.fault(1, Trial.main("return main(1,^);"));
    Trial.fault(1, Trial.main("return main(^,1);"));
    Trial.fault(1, Trial.main("return 1^, 2;"));
    Trial.fault(1, Trial.main("int a; a[^] = 1;"));
    Trial.fault(1, Trial.main("int a; (a^;"));
    Trial.fault(1, Trial.main("return ^int;"));
  }

  private static String repeat(String s, int n) {
    return s.repeat(n);
  }

  /** So many statements stand in one another around the last. */
  private static void depthOfStatements() {
    String[] heads = {"{ ", "if (1) ", "while (1) ", "for (;;) ", "if (1) ; else ", "do "};
    String[] tails = {" }", "", "", "", "", " while (0);"};
    for (int k = 0; k < heads.length; k++) {
      Trial.right("int f() { " + repeat(heads[k], 24) + ";" + repeat(tails[k], 24) + " }");
      // In the head with else the body before else is too deep already.
      int place = heads[k].endsWith("else ") ? 10 + 24 * heads[k].length() + 7 : 10 + 25 * heads[k].length();
      Trial.faultAt(1, place, "int f() { " + repeat(heads[k], 25) + ";" + repeat(tails[k], 25) + " }");
      Trial.faultAt(1, place, "int f() { " + repeat(heads[k], 26));
    }
    Trial.right("int f() { " + repeat("{", 25) + repeat("}", 25) + " }");
    Trial.faultAt(1, 35, "int f() { " + repeat("{", 26) + repeat("}", 26) + " }");
    Trial.faultAt(1, 35, "int f() { " + repeat("{", 25) + "@");
    Trial.faultAt(1, 35, "int f() { " + repeat("{", 25) + "int 3");
    Trial.faultAt(1, 35, "int f() { " + repeat("{", 25));
  }

  private static void depthOfExpressions() {
    String f = "int *p; int g(int x); int v(void); int f(int a, int b) { return ";
    int n = f.length();
    String[][] wraps = {
      {"(", ")"}, {"- ", ""}, {"!", ""}, {"~", ""}, {"(int)", ""}, {"g(", ")"}, {"p[", "]"},
      {"a = ", ""}, {"a += ", ""}, {"1 ? 1 : ", ""}, {"1 ? ", " : 1"},
    };
    int[] signs = {0, 0, 0, 0, 0, 1, 1, 2, 2, 6, 2};
    for (int k = 0; k < wraps.length; k++) {
      String open = wraps[k][0];
      Trial.right(f + repeat(open, 24) + "1" + repeat(wraps[k][1], 24) + "; }");
      String much = f + repeat(open, 25) + "1" + repeat(wraps[k][1], 25) + "; }";
      // Of 1 ? 1 : x the ? comes before the : that would be as deep.
      int sign = open.equals("1 ? 1 : ") ? 2 : signs[k];
      Trial.faultAt(1, n + 24 * open.length() + sign, much);
    }
    Trial.right(f + repeat("(", 23) + "v()" + repeat(")", 23) + "; }");
    Trial.faultAt(1, n + 25, f + repeat("(", 24) + "v()" + repeat(")", 24) + "; }");
    Trial.faultAt(1, n + 24, f + repeat("(", 24) + "-1" + repeat(")", 24) + "; }");
    Trial.right(f + repeat("(", 24) + "a++ + b-- * a" + repeat(")", 24) + "; }");
    Trial.faultAt(1, n + 24, f + repeat("(", 24) + "(int ******) 1");
    // A condition, a size and an initial are 1 deep, and so is each of { }.
    Trial.right("int f() { if (" + repeat("(", 24) + "1" + repeat(")", 24) + ") ; }");
    Trial.right("int a[" + repeat("(", 24) + "1" + repeat(")", 24) + "];");
    Trial.faultAt(1, 30, "int a[" + repeat("(", 25) + "1" + repeat(")", 25) + "];");
    Trial.right("int a[] = { " + repeat("- ", 24) + "1, " + repeat("~", 24) + "1 };");
    Trial.faultAt(1, 60, "int a[] = { " + repeat("- ", 25) + "1 };");
    Trial.right("int a = " + repeat("(", 24) + "1" + repeat(")", 24) + ";");
    Trial.faultAt(1, 32, "int a = " + repeat("(", 25) + "1" + repeat(")", 25) + ";");
    String[] heads = {"if (", "while (", "do ; while (", "for (", "for (;", "for (;;", "return ", "", "int x = ",
        "int x[", "int x[] = { ", "int x[] = { 1, "};
    String[] tails = {") ;", ") ;", ");", ";;) ;", ";) ;", ") ;", ";", ";", ";", "];", " };", " };"};
    for (int k = 0; k < heads.length; k++) {
      String head = "int f() { " + heads[k];
      Trial.right(head + repeat("(", 24) + "1" + repeat(")", 24) + tails[k] + " return 0; }");
      Trial.faultAt(1, head.length() + 24, head + repeat("(", 25) + "1" + repeat(")", 25) + tails[k] + " return 0; }");
    }
    // Both kinds of depth are counted on their own.
    Trial.right("int f() { " + repeat("{", 24) + repeat("(", 24) + "1" + repeat(")", 24) + ";" + repeat("}", 24) + " }");
    // Many brackets one behind the other are not deep.
    Trial.right("int f(int **p) { return " + repeat("(1) + ", 50) + "p[0][0]; }");
  }

  /** Faults 2 and 4 are told of units alone. */
  private static void faultOneIsFirst() {
    Trial.fault(1, "int a; int a; int f() { return x; } ^)");
    Trial.fault(1, "int a[5000]; int b ^c;");
  }
}
