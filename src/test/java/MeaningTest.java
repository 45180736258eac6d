/** Term 3: what means nothing (fault 2), and where it is told (promises 4 and 5). */
public final class MeaningTest {
  public static void main(String[] args) {
    names();
    outerNames();
    scopes();
    parameters();
    sizes();
    outerInitials();
    localInitials();
    unarySigns();
    binarySigns();
    assignments();
    calls();
    voidCalls();
    statements();
    order();
    Trial.finish("MeaningTest");
  }

  /** Marked statements of a function in a unit with a bit of everything. */
  private static void inside(String marked) {
    Trial.fault(2, PRELUDE + marked + " }");
  }

  private static void fine(String statements) {
    Trial.right(PRELUDE + statements + " }");
  }

  private static final String PRELUDE = "int n; int *p; int **q; int a[4]; int *b[2]; extern int e;"
      + " int f(void); int g(int x, int *y); int *h(); void v(void); void w(int x); int k() { int i;"
      + " int *j; int **l; int c[3]; ";

  private static void names() {
    Trial.fault(2, "int f() { return ^x; }");
    Trial.fault(2, "int f() { return ^f; }");
    Trial.fault(2, "int f() { ^g(); return 0; }");
    Trial.fault(2, "int x; int f() { return ^x(); }");
    Trial.fault(2, "int f() { int f; return ^f(); }");
    Trial.fault(2, "int a = ^b; int b = 1;");
    Trial.fault(2, "int f() { return ^g(); } int g() { return 1; }");
    Trial.right("int f(); int g() { return f(); }");
    Trial.right("int f(int n) { return n ? f(n - 1) : 0; }");
    Trial.right("int x = 1; int f() { int x = x; return x; }");
    Trial.fault(2, "int f() { int a = ^b, b; return 0; }");
    Trial.fault(2, "int f() { ^x(y); return 0; }");
    Trial.fault(2, "int g; int f() { ^g(y); return 0; }");
    Trial.fault(2, "int g(); int f() { g(^y); return 0; }");
  }

  private static void outerNames() {
    Trial.right("extern int a; int a; extern int a; extern int a;");
    Trial.right("extern int a[]; extern int a[3]; int a[3]; extern int a[];");
    Trial.right("int a[] = { 1, 2 }; extern int a[2];");
    Trial.right("int f(); int f(void); extern int f(); int f() { return 1; } int f();");
    Trial.right("int f(int *a); int f(int []); int f(int b[]) { return 0; }");
    Trial.right("static int f(); static int f() { return 1; }");
    Trial.right("int f(int a, int a);");
    Trial.fault(2, "int a; int ^a;");
    Trial.fault(2, "int a, ^a;");
    Trial.fault(2, "static int a; static int ^a;");
    Trial.fault(2, "static int a; extern int ^a;");
    Trial.fault(2, "extern int a; static int ^a;");
    Trial.fault(2, "extern int a; int *^a;");
    Trial.fault(2, "extern int *a; int ^a[2];");
    Trial.fault(2, "extern int a; int ^a[1];");
    Trial.fault(2, "extern int a[3]; int ^a[4];");
    Trial.fault(2, "extern int a[]; extern int a[3]; int ^a[4];");
    Trial.fault(2, "int a[3]; extern int ^a[4];");
    Trial.fault(2, "extern int a[3]; int ^a[] = { 1, 2 };");
    Trial.fault(2, "extern int a[3]; int ^a[] = \"abc\";");
    Trial.right("extern int a[4]; int a[] = \"abc\";");
    Trial.fault(2, "extern int *a[3]; int *^a[] = \"abc\";");
    Trial.fault(2, "extern int *a[4]; int *a[] ^= \"abc\";");
    Trial.fault(2, "int f(); int ^f;");
    Trial.fault(2, "int f; int ^f();");
    Trial.fault(2, "int f(); int *^f();");
    Trial.fault(2, "int f(); void ^f();");
    Trial.fault(2, "int f(); int ^f(int);");
    Trial.fault(2, "int f(int); int ^f(int *);");
    Trial.fault(2, "int f(int, int); int ^f(int);");
    Trial.fault(2, "int f(); static int ^f();");
    Trial.fault(2, "static int f(); int ^f();");
    Trial.fault(2, "int f() { return 1; } int ^f() { return 1; }");
    Trial.fault(2, "int f() { return 1; } int f(); int ^f() { return x; }");
    // With a size that is not right the name is looked at as without one, and then the [.
    Trial.fault(2, "extern int a[3]; int a^[0];");
    Trial.fault(4, "extern int a[3]; int a^[4001];");
    Trial.fault(2, "extern int a[3]; int a^[x];");
    Trial.fault(2, "extern int a[3]; int a^[];");
  }

  private static void scopes() {
    Trial.right("int a; int f() { int a; { int a; { int a; } } if (1) int a; else int a; return 0; }");
    Trial.right("int f(int a) { { int a; } return a; }");
    Trial.right("int f() { do int a; while (0); for (;;) int a; while (1) int a; return 0; }");
    Trial.fault(2, "int f(int a) { int ^a; return 0; }");
    Trial.fault(2, "int f() { int a, ^a; return 0; }");
    Trial.fault(2, "int f() { int a; { int a; int ^a; } return 0; }");
    Trial.fault(2, "int f() { { int a; } return ^a; }");
    Trial.fault(2, "int f() { if (1) int a; return ^a; }");
    Trial.fault(2, "int f() { if (1) int a; else ^a; return 0; }");
    Trial.fault(2, "int f() { do int a; while (^a); return 0; }");
    Trial.fault(2, "int f() { for (;;) int a; ^a; return 0; }");
    Trial.fault(2, "int f(int a) { return 0; } int g() { return ^a; }");
    Trial.gives(1, "int a = 1; int main() { { int a = 2; } return a; }");
    Trial.gives(2, "int a = 1; int main() { int a = 2; { int a = 3; } return a; }");
    Trial.gives(3, "static int put() { return 3; } int main() { return put(); }");
    Trial.gives(4, "int main() { int put = 4; return put; }");
  }

  private static void parameters() {
    Trial.fault(2, "int f(int^) { return 0; }");
    Trial.fault(2, "int f(int^, int b) { return x; }");
    Trial.fault(2, "int f(int a, int []^) { return 0; }");
    Trial.fault(2, "int f(int a, int ^a) { return 0; }");
    Trial.fault(2, "int f(int a, int *^a[]) { return x; }");
    Trial.gives(7, "int f(int a[], int *b[]) { return a[1] + *b[0]; }"
        + " int main() { int x[2] = { 1, 2 }; int y = 5; int *z[1] = { &y }; return f(x, z); }");
    Trial.right("int f(int *****a[]) { int *****b = *a; return b == 0; }");
  }

  private static void sizes() {
    Trial.right("int a[1]; int b[4000]; int c[2 + 3 * 4 - 1 << 1]; int d[!0]; int e['a']; int g[~-2 & 7 | 8 ^ 1];");
    Trial.right("int a[1 < 2]; int b[2 > 1]; int c[1 <= 1]; int d[1 >= 1]; int e[1 == 1]; int f[1 != 2]; int g[7 % 4 / 3 >> 0];");
    Trial.right("int f() { int a[(2)]; return a[0]; }");
    Trial.fault(2, "int a^[0];");
    Trial.fault(2, "int a^[-1];");
    Trial.fault(2, "int a^[0x80000000];");
    Trial.fault(2, "int a^[1 / 0];");
    Trial.fault(2, "int a^[1 % 0];");
    Trial.fault(2, "int a^[1 && 1];");
    Trial.fault(2, "int a^[0 || 1];");
    Trial.fault(2, "int a^[1 ? 2 : 3];");
    Trial.fault(2, "int a^[(int) 3];");
    Trial.fault(2, "int a^[\"x\"];");
    Trial.fault(2, "int a^[*\"x\"];");
    Trial.fault(2, "int n; int a^[n];");
    Trial.fault(2, "int n; int a^[n = 3];");
    Trial.fault(2, "int a^[nothing];");
    Trial.fault(2, "int a^[nothing()];");
    Trial.fault(2, "int a^[3 + \"x\" * 2];");
    Trial.fault(2, "int a^[1" + " + 1".repeat(60) + "];");
    Trial.right("int a[1" + " + 1".repeat(59) + "];");
    Trial.fault(2, "int a^[];");
    Trial.fault(2, "static int a^[];");
    Trial.right("extern int a[];");
    Trial.fault(2, "int f() { int a^[]; return 0; }");
    Trial.fault(2, "int f() { int a^[0]; return 0; }");
    Trial.fault(2, "int f(int n) { int a^[n]; return 0; }");
    Trial.fault(2, "int a^[0] = 1;");
    Trial.fault(2, "int a^[0] = nothing;");
    Trial.fault(2, "extern int a^[0];");
  }

  private static void outerInitials() {
    Trial.right("int a = 1; int b = -(2 + 3) * ~4 / 5 % 6 << 7 >> 8; int c = 'c' == 1 != 2; int d = !5 & 6 | 7 ^ 8;");
    Trial.right("int x; int y[3]; int *a = 0; int *b = (0); int *c = '\\0'; int *d = \"s\"; int *e = y; int *f = &x;"
        + " int *g = y + 1; int *h = 2 + y; int *i = &x - 1; int *j = \"s\" + 1; int **k = &a; int *l = (y); int *m = (&(x)); int *o = y + 1 - 2 + 3;");
    Trial.right("extern int x; extern int y[]; int *a = &x; int *b = y; int *c[2] = { &x, y };");
    Trial.fault(2, "int x; int a ^= x;");
    Trial.fault(2, "int f(); int a ^= f();");
    Trial.fault(2, "int a ^= 1 / 0;");
    Trial.fault(2, "int a ^= 1 && 1;");
    Trial.fault(2, "int a ^= 1 ? 2 : 3;");
    Trial.fault(2, "int a ^= (int) 1;");
    Trial.fault(2, "int a ^= \"x\"[0];");
    Trial.fault(2, "int a ^= \"x\";");
    Trial.fault(2, "int a ^= a;");
    Trial.fault(2, "int a ^= &a;");
    Trial.fault(2, "int a ^= { 1 };");
    Trial.fault(2, "int *a ^= { 0 };");
    Trial.fault(2, "int *a ^= 1;");
    Trial.fault(2, "int *a ^= 0 + 0;");
    Trial.fault(2, "int *a ^= -0;");
    Trial.fault(2, "int *a ^= (int *) 0;");
    Trial.fault(2, "int y[3]; int *a ^= &y[1];");
    Trial.fault(2, "int x; int *p = &x; int *a ^= p;");
    Trial.fault(2, "int x; int *a ^= &*&x;");
    Trial.fault(2, "int x; int **a ^= &x;");
    Trial.fault(2, "int x; int y; int a ^= &x - &y;");
    Trial.fault(2, "int x; int *a ^= 1 ? &x : 0;");
    Trial.fault(2, "int x; int z; int *a ^= &x + z;");
    Trial.fault(2, "int y[3]; int *a = ^&y;");
    Trial.fault(2, "int f(); int *a = &^f;");
    Trial.fault(2, "int a = 1 + ^nothing;");
    Trial.right("int a[3] = { 1, 2 }; int b[3] = { 1, 2, 3 }; int c[] = { 1 }; int d[3] = \"ab\"; int e[3] = \"abc\"; int f[9] = \"\";");
    Trial.right("int *a[] = { \"x\", 0, \"y\" + 1 };");
    Trial.fault(2, "int a[2] ^= { 1, 2, 3 };");
    Trial.fault(2, "int a[2] ^= { 1, \"x\" };");
    Trial.fault(2, "int a[2] ^= { 1, 1 / 0 };");
    Trial.fault(2, "int *a[2] ^= { 0, 1 };");
    Trial.fault(2, "int a[2] = { \"x\", ^y };");
    Trial.fault(2, "int a[2] ^= \"abc\";");
    Trial.fault(2, "int a[] ^= 1;");
    Trial.fault(2, "int a[3] ^= 1;");
    Trial.fault(2, "int a[] = ^b;");
    Trial.fault(2, "int a[] ^= (\"abc\");");
    Trial.fault(2, "int a[4] ^= (\"abc\");");
    Trial.fault(2, "int a[4] ^= \"abc\" + 0;");
    Trial.fault(2, "int *a[4] ^= \"abc\";");
    Trial.fault(2, "extern int a ^= 1;");
    Trial.fault(2, "extern int a = ^b;");
    Trial.fault(2, "extern int a[] ^= { 1 };");
    Trial.fault(2, "extern int a[2] ^= \"x\";");
    Trial.fault(2, "void f(); int a ^= f();");
  }

  private static void localInitials() {
    fine("int x = n + f(), *y = p, *z = 0, *t = \"s\", u[2] = { n, f() }, *s[2] = { 0, p }, r[] = \"abc\"; return 0;");
    inside("int x ^= p;");
    inside("int *x ^= 1;");
    inside("int *x ^= q;");
    inside("int x ^= { 1 };");
    inside("int *x ^= { 0 };");
    inside("int x[2] ^= n;");
    inside("int x[2] ^= a;");
    inside("int x[2] ^= { 1, 2, 3 };");
    inside("int x[2] ^= { p };");
    inside("int x[2] = { p, ^nothing };");
    inside("int x[2] ^= \"abc\";");
    inside("int x[4] ^= (\"abc\");");
    inside("int x[] ^= (\"abc\");");
    inside("int *x[4] ^= \"abc\";");
    inside("int x ^= v();");
    inside("int x[2] ^= { v() };");
    inside("int x[2] ^= v();");
  }

  private static void unarySigns() {
    fine("return -i + ~n + !p + !i + !a + *p + **q + *a + *&i + a[1] + (&a[1])[0] + *\"x\" + \"x\"[0] + (int) p + *(int *) n;");
    fine("i++; ++i; p--; --*p; (i)++; (*p)++; a[1]++; *p++; b[0]++; return 0;");
    inside("return ^-p;");
    inside("return ^~a;");
    inside("return ^*i;");
    inside("return ^*f();");
    inside("return ^-v();");
    inside("return ^!v();");
    inside("return ^*v();");
    inside("return ^(int) v();");
    inside("return *^&a;");
    inside("^&1;");
    inside("^&f();");
    inside("^&i++;");
    inside("^& &i;");
    inside("^&(i + 1);");
    inside("^&(int) i;");
    inside("^&\"x\";");
    inside("^&c;");
    inside("^&(i = 1);");
    inside("^++1;");
    inside("^++a;");
    inside("^--f();");
    inside("^++i++;");
    inside("i++ ^++;");
    inside("^++ ++i;");
    inside("c^++;");
    inside("1^--;");
  }

  private static void binarySigns() {
    fine("return i * n / 2 % 3 & 4 ^ 5 | 6 << 7 >> 8;");
    fine("return *(p + 1) + *(1 + p) + *(p - 1) + (p - j) + (q - l) + (a - p) + (i - n);");
    fine("return (p < j) + (a > p) + (q <= l) + (b >= q) + (1 < 2) + (p == j) + (p != 0) + (0 == p) + (q == (0)) + ('\\0' != a) + (p == 0x0);");
    fine("return (p && i) + (a || q) + (i && p) + (0 || 0);");
    fine("p = i ? p : j; p = p ? p : 0; p = a ? 0 : p; i = q ? 1 : 2; p = i ? a : c; return 0;");
    for (String sign : new String[] {"*", "/", "%", "&", "^", "|", "<<", ">>"}) {
      int place = (PRELUDE + "p ").length();
      Trial.faultAt(2, place, PRELUDE + "p " + sign + " 1; }");
      Trial.faultAt(2, place, PRELUDE + "n " + sign + " p; }");
      Trial.faultAt(2, place, PRELUDE + "p " + sign + " p; }");
      Trial.faultAt(2, (PRELUDE + "v() ").length(), PRELUDE + "v() " + sign + " 1; }");
    }
    inside("p ^+ p;");
    inside("p ^+ a;");
    inside("1 ^- p;");
    inside("p ^- q;");
    inside("p ^< q;");
    inside("p ^< 0;");
    inside("0 ^>= p;");
    inside("p ^<= 1;");
    inside("p ^== q;");
    inside("p ^== 1;");
    inside("p ^!= i;");
    inside("p ^== 0 + 0;");
    inside("p ^== !1;");
    inside("p ^== 0x1;");
    inside("v() ^== v();");
    inside("v() ^&& 1;");
    inside("1 ^|| v();");
    inside("1 ^+ v();");
    inside("i ^? p : q;");
    inside("i ^? p : 1;");
    inside("i ^? 1 : p;");
    inside("i ^? p : 0 + 0;");
    inside("i ^? v() : 1;");
    inside("i ^? v() : v();");
    inside("v() ^? 1 : 2;");
    inside("i ^? f() : v();");
    inside("1^[a];");
    inside("p^[p];");
    inside("i^[1];");
    inside("p^[v()];");
    inside("v()^[1];");
    inside("p[1]^[1];");
  }

  private static void assignments() {
    fine("i = 1; p = a; p = 0; p = (0); *p = 1; a[1] = 2; b[1] = p; (i) = 1; *q = 0; p += 1; p -= i; i += 2; i <<= 1; i = n = 3; return 0;");
    fine("i -= 1; i *= 2; i /= 3; i %= 4; i &= 5; i |= 6; i ^= 7; i >>= 8; *p *= 2; a[0] |= 1; return 0;");
    inside("1 ^= 2;");
    inside("a ^= p;");
    inside("f() ^= 2;");
    inside("i + 1 ^= 2;");
    inside("i++ ^= 2;");
    inside("++i ^= 2;");
    inside("(int) i ^= 2;");
    inside("(i = 1) ^= 2;");
    inside("i ? i : n ^= 2;");
    inside("\"x\" ^= p;");
    inside("i ^= p;");
    inside("p ^= 1;");
    inside("p ^= i;");
    inside("p ^= q;");
    inside("p ^= &p;");
    inside("i ^= v();");
    inside("p ^= v();");
    inside("v() ^= 1;");
    inside("i ^+= p;");
    inside("p ^+= p;");
    inside("p ^-= a;");
    inside("p ^*= 2;");
    inside("p ^<<= 2;");
    inside("i ^|= p;");
    inside("a ^+= 1;");
    inside("1 ^+= 1;");
    inside("v() ^+= 1;");
    inside("i ^-= v();");
    inside("p = q = ^nothing;");
    inside("p = q ^= p;");
    inside("1 = ^nothing;");
  }

  private static void calls() {
    fine("f(); g(1, p); g(n, 0); g(1, a); v(); w(1); h(); *h() = 1; return 0;");
    inside("^f(1);");
    inside("^g(1);");
    inside("^g();");
    inside("^g(1, p, 2);");
    inside("^g(p, 1);");
    inside("^g(1, 1);");
    inside("^g(1, q);");
    inside("^w(v());");
    inside("f(^nothing);");
    inside("g(1, ^n(2));");
    inside("g(^f(1), nothing);");
    inside("i = ^g(1, p, 2);");
    inside("^w(1, 2, 3, 4, 5, 6, 7, 8, 9, 10);");
    Trial.fault(2, "static int g(); int f() { return ^g(); }");
    Trial.fault(2, "static int g(int x); static int h(); int f() { return ^h() + g(h()) + h(); }");
    Trial.fault(2, "static int g(); int f() { return g() + ^nothing; }");
    Trial.right("static int g(); int f() { return g(); } static int g() { return 1; }");
    Trial.right("static int g(); int f() { return 1; }");
    Trial.fault(2, "static int g(int x); int f() { return ^g(g(1)); }");
  }

  private static void voidCalls() {
    fine("v(); (v()); ((v())); for (v(); i; v()) ; for ((v()); ; (v())) break; return 0;");
    inside("^if (v()) ;");
    inside("^while (v()) ;");
    inside("do ; ^while (v());");
    inside("^for (; v();) ;");
    inside("^return v();");
    inside("^return (v());");
    Trial.fault(2, "void v(); void f() { ^return v(); }");
    inside("^w(v());");
    inside("w(^f(v()));");
  }

  private static void statements() {
    Trial.right("void f() { return; } int g() { return 1; } int *h() { return 0; } int *k(int *p) { return p; }");
    Trial.fault(2, "void f() { ^return 1; }");
    Trial.fault(2, "int f() { ^return; }");
    Trial.fault(2, "int *f() { ^return 1; }");
    Trial.fault(2, "int f(int *p) { ^return p; }");
    Trial.fault(2, "int **f(int *p) { ^return p; }");
    Trial.fault(2, "int f() { return ^x; }");
    inside("^break;");
    inside("^continue;");
    inside("if (1) ^break;");
    inside("while (1) ; ^break;");
    inside("{ for (;;) { if (1) { continue; } break; } ^continue; }");
    fine("while (1) if (1) break; else continue; do { break; } while (1); return 0;");
    fine("if (p) ; while (a) break; do break; while (q); for (; p; ) break; return 0;");
    fine("1; i; p; \"x\"; a; return 0;");
  }

  /** Of several faults the first in the order in which the document looks at a unit. */
  private static void order() {
    Trial.fault(2, "int f() { ^x; y; }");
    Trial.fault(2, "int f(int *p) { -^x + 1; }");
    Trial.fault(2, "int f(int *p) { return ^-p + x; }");
    Trial.fault(2, "int f(int *p) { return 1 + p ^* 1 + x; }");
    Trial.fault(2, "int f(int *p) { return p * ^x; }");
    Trial.fault(2, "int f(int *p) { if (^x) p * 1; }");
    Trial.fault(2, "int f(int *p) { for (^x; p * 1; y) z; }");
    Trial.fault(2, "int f(int *p) { for (1; p ^* 1; y) z; }");
    Trial.fault(2, "int f(int *p) { for (1; 1; ^y) z; }");
    Trial.fault(2, "int f(int *p) { do ^z; while (p * 1); }");
    Trial.fault(2, "int f(int *p) { int ^p[x] = { y }; }");
    Trial.fault(2, "int f(int *p) { int a^[x] = { y }; }");
    Trial.fault(2, "int f(int *p) { int a[2] = { ^y, 2, 3 }; }");
    Trial.fault(2, "int f(int *p) { return p ? 1 : p ? p : ^x; }");
    Trial.fault(2, "int f(int *p) { return p ^? p : 1; }");
    Trial.fault(2, "int f(int *p) { p[^x] = y; }");
    Trial.fault(2, "int f(int *p) { 1 = ^y; }");
    Trial.fault(2, "int f(int) ; int f(int^) { return x; }");
  }
}
