/** Promises 14 to 22: input, run and what is told of a run. */
public final class RunTest {
  private static final String LIB = "int get(void); void put(int); void print(int); void stop(int); ";

  public static void main(String[] args) {
    arithmetic();
    comparing();
    deciding();
    orderOfWork();
    assigning();
    stepping();
    locals();
    loops();
    calls();
    data();
    Trial.finish("RunTest");
  }

  private static void value(int want, String expression) {
    Trial.gives(want, "int one = 1, two = 2, big = 0x7fffffff, least = 0x80000000, zero, minus = -1;"
        + " int row[4] = { 10, 20, 30, 40 }; int f(int x) { one += x; return one; }"
        + " int main() { return " + expression + "; }");
  }

  private static void arithmetic() {
    value(Integer.MIN_VALUE, "big + 1");
    value(Integer.MAX_VALUE, "least - 1");
    value(1, "big * big");
    value(0, "least * two");
    value(Integer.MIN_VALUE, "-least");
    value(Integer.MIN_VALUE, "least / minus");
    value(0, "least % minus");
    value(Integer.MIN_VALUE, "0x80000000 / -1");
    value(-3, "-7 / two");
    value(-1, "-7 % two");
    value(-3, "7 / -two");
    value(1, "7 % -two");
    value(0, "one / two");
    value(2, "one << 33");
    value(Integer.MIN_VALUE, "one << -1");
    value(1, "one << 32");
    value(-1, "least >> 31");
    value(-1, "minus >> 5");
    value(0x3fffffff, "big >> 33");
    value(-1, "~0");
    value(-2, "~one");
    value(6, "7 & 14");
    value(15, "7 | 14");
    value(9, "7 ^ 14");
    value(0, "!two");
    value(1, "!zero");
    value(1, "!!minus");
    value(-715827882, "-(1 << 31) / 3");
  }

  private static void comparing() {
    value(1, "minus < 0");
    value(0, "minus > 0");
    value(1, "least <= big");
    value(0, "least >= big");
    value(1, "one == 1");
    value(1, "one != two");
    // Pointers are compared as numbers without sign.
    value(1, "(int *) minus > (int *) 5");
    value(0, "(int *) minus < (int *) 5");
    value(1, "(int *) least > (int *) big");
    value(1, "(int *) minus >= (int *) minus");
    value(0, "(int *) minus <= (int *) 5");
    value(0, "row < row");
    value(0, "row > row");
    value(1, "row <= row");
    value(1, "row >= row");
    value(0, "row + 1 < row");
    value(0, "row > row + 1");
    value(0, "row >= row + 1");
    value(0, "row + 1 <= row");
    value(1, "row <= row + 1");
    value(1, "row + 1 >= row");
    value(1, "(int *) minus == (int *) -1");
    value(1, "(int *) minus != 0");
    value(1, "(int *) zero == 0");
    value(3, "&row[3] - row");
    value(-3, "row - &row[3]");
    value(30, "*(row + 2)");
    value(40, "*(&row[1] + 2)");
    value(20, "(2 + row)[-1]");
    value(30, "*(&row[3] - 1)");
    value(1, "(int) &row[1] - (int) row");
    value(1, "row == &row[0] && row < row + 1");
  }

  private static void deciding() {
    value(0, "zero && f(1) || one != 1");
    value(1, "(two || f(1)) && one == 1");
    value(1, "7 && row");
    value(0, "7 && zero");
    value(1, "zero || -1");
    value(0, "zero || 0");
    value(1, "(int *) 5 && 1");
    value(5, "two ? 5 : f(9)");
    value(6, "zero ? f(9) : 6");
    value(1, "zero ? f(1) : 1");
    value(1, "(1 ? 0 : f(1)) + one");
    value(3, "(0 && f(1)) + (1 || f(1)) + (0 || 1) + one");
    value(2, "row ? 2 : 3");
    value(4, "1 ? 0 ? 3 : 4 : 5");
    value(10, "*(one ? row : 0)");
    value(1, "(zero ? row : 0) == 0");
  }

  /** From the left, and of an assignment the place before the right side. */
  private static void orderOfWork() {
    Trial.ends(0, 6, "123", LIB + "int say(int x) { print(x); return x; } int main() { return say(1) + say(2) + say(3); }");
    Trial.ends(0, 7, "123", LIB + "int say(int x) { print(x); return x; } int main() { return say(1) + say(2) * say(3); }");
    Trial.ends(0, 0, "1234", LIB + "int say(int x) { print(x); return x; } int add(int a, int b, int c) { return a + b + c; }"
        + " int main() { return add(say(1), say(2), say(3)) == 6 && say(4) == 5; }");
    Trial.ends(0, 5, "120", LIB + "int a[4]; int say(int x) { print(x); return x; }"
        + " int main() { a[say(1)] = say(2) + 3; print(a[2]); return a[1]; }");
    value(1 + 3, "one + f(2)");
    value(3 + 3, "f(2) + one");
    Trial.gives(6, Trial.main("int x = 1; return x + (x = 5);"));
    Trial.gives(3, Trial.main("int x = 1; x += x++ + 1; return x;"));
    Trial.gives(2, Trial.main("int x = 1; x += (x = 10) - 9; return x;"));
    Trial.gives(5, Trial.main("int i = 0; int a[3] = { 1, 2, 3 }; a[i] = i = 2; return a[0] + a[2];"));
    Trial.gives(12, Trial.main("int i = 0; int a[3] = { 1, 2, 3 }; a[i++] += 10; return a[0] + i;"));
    Trial.gives(7, Trial.main("int a[2] = { 1, 2 }; int b[2] = { 7, 8 }; int *p = a; *p = (p = b)[0]; return a[0];"));
    Trial.gives(2, Trial.main("int a[2] = { 1, 2 }; int *p = a; return p[(p = 0) == 0];"));
    Trial.gives(8, Trial.main("int x = 2; int *p = &x; return x * (*p = 4);"));
    Trial.gives(33, Trial.main("int x = 3; return x * 10 + x++ + 0 * x;"));
    Trial.gives(43, Trial.main("int x = 3; return ++x * 10 + x-- - 1;"));
  }

  private static void assigning() {
    Trial.gives(9, Trial.main("int a; int b; return (a = b = 4) + a + b - 3;"));
    int[] want = {13, 7, 30, 3, 1, 2, 11, 9, 80, 1};
    String[] signs = {"+=", "-=", "*=", "/=", "%=", "&=", "|=", "^=", "<<=", ">>="};
    for (int i = 0; i < signs.length; i++) {
      Trial.gives(want[i], Trial.main("int x = 10; return x " + signs[i] + " 3;"));
      Trial.gives(want[i], Trial.main("int x = 10; x " + signs[i] + " 3; return x;"));
      Trial.gives(want[i], Trial.main("int x = 10; int *p = &x; *p " + signs[i] + " 3; return x;"));
      Trial.gives(want[i], "int x = 10; int main() { x " + signs[i] + " 3; return x; }");
      Trial.gives(want[i], "int a[3] = { 1, 10 }; int main() { int *p = a; return p[1] " + signs[i] + " 3; }");
    }
    Trial.gives(30, Trial.main("int a[3] = { 10, 20, 30 }; int *p = a; p += 2; return *p;"));
    Trial.gives(10, Trial.main("int a[3] = { 10, 20, 30 }; int *p = &a[2]; p -= 2; return *p;"));
    Trial.gives(3, Trial.main("int x; int *p = &x; int **q = &p; **q = 3; return x;"));
    Trial.gives(4, "int *p; int main() { int x = 4; p = &x; return *p; }");
    Trial.gives(1, Trial.main("int *p = (int *) 5; p = 0; return p == 0;"));
  }

  private static void stepping() {
    Trial.gives(112, Trial.main("int x = 1; return x++ * 100 + x * 6;"));
    Trial.gives(212, Trial.main("int x = 1; return ++x * 100 + x * 6;"));
    Trial.gives(100, Trial.main("int x = 1; return x-- * 100 + x * 6;"));
    Trial.gives(0, Trial.main("int x = 1; return --x * 100 + x * 6;"));
    Trial.gives(Integer.MIN_VALUE, Trial.main("int x = 0x7fffffff; x++; return x;"));
    Trial.gives(Integer.MAX_VALUE, Trial.main("int x = 0x80000000; return --x;"));
    Trial.gives(23, Trial.main("int a[3] = { 1, 2, 3 }; int *p = a; *p++; return *p++ * 10 + *p;"));
    Trial.gives(22, Trial.main("int a[3] = { 1, 2, 3 }; int *p = a; return *++p * 10 + (*p)++;"));
    Trial.gives(13, "int g = 12; int main() { int *p = &g; (*p)++; return g; }");
    Trial.gives(25, "int g = 12; int main() { return g++ + g; }");
    Trial.gives(26, "int g = 12; int main() { return ++g + g; }");
    Trial.gives(3, "int a[2] = { 1, 2 }; int main() { a[0]++; ++a[1]; return a[1] * a[0] - a[1]--; }");
    Trial.gives(4, Trial.main("int a[3]; int i = 1; a[i++]++; ++a[i--]; return a[1] + a[2] + i + 1;"));
  }

  private static void locals() {
    Trial.gives(0, Trial.main("int x; return x;"));
    Trial.gives(0, Trial.main("int a[3]; return a[0] + a[1] + a[2];"));
    Trial.gives(3, Trial.main("int i; int n = 0; for (i = 0; i < 3; i++) { int x; n += x; x = 5; n++; } return n;"));
    Trial.gives(3, Trial.main("int i; int n = 0; for (i = 0; i < 3; i++) { int x[2]; n += x[1]; x[1] = 5; n++; } return n;"));
    Trial.gives(3, Trial.main("int i; int n = 0; for (i = 0; i < 3; i++) { int x; n += x; *&x = 5; n++; } return n;"));
    Trial.gives(1, Trial.main("int x = x + 1; return x;"));
    Trial.gives(5, Trial.main("int a[3] = { 5, a[0], a[2] + a[1] - 5 }; return a[0] + a[2] + a[1] - 5;"));
    Trial.gives(6, Trial.main("int a[] = { 1, 2, 3 }; return a[0] + a[1] + a[2];"));
    Trial.gives(1, Trial.main("int a[4] = { 1 }; return a[0] + a[1] + a[2] + a[3];"));
    Trial.gives('a' + 'b', Trial.main("int a[] = \"ab\"; return a[0] + a[1] + a[2];"));
    Trial.gives('b', Trial.main("int a[2] = \"ab\"; return a[1];"));
    Trial.gives('a', Trial.main("int a[5] = \"a\"; return a[0] + a[1] + a[4];"));
    Trial.gives('b' + 7, Trial.main("int x = 7; int a[] = \"ab\"; int y; int *p = &y; return a[1] + x + a[2] + *p;"));
    Trial.gives(9, Trial.main("int x = 7; int a[] = { 1, 2 }; int y; int *p = &y; return a[1] + x + a[2 - 2] - 1 + *p;"));
    // An array's declaration clears its own cells and no others: y's is still as it was left.
    Trial.gives(5, Trial.main("int *p = 0; int i; int s = 0; for (i = 0; i < 2; i++) { int a[2]; if (p) s = *p;"
        + " int y = 5; p = &y; } return s;"));
    Trial.gives(56, Trial.main("int *p = 0; int i; int s = 0; for (i = 0; i < 2; i++) { int x; int a[2] = \"q\";"
        + " if (p) s = p[0] * 10 + p[1]; int y = 5; int z = 6; p = &y; &z; &x; } return s;"));
    framesInMemory();
  }

  /** Frames grow down; only arrays and locals under & have cells, in the order of the text. */
  private static void framesInMemory() {
    for (int level = 0; level <= 3; level++) {
      Trial t = new Trial();
      Trial.due("run", t.go("int f(int p, int q, int r) { int s; int t[2]; { int u = 6; int *v = &u; s = *v; }"
          + " t[0] = 4; t[1] = 5; q += 1; int *w = &(r); int x = 8; return *&q + s + *w + x; }"
          + " int main() { int a = 1; int b[2] = { 2, 3 }; int c = f(10, 20, 30); return c + *&a; }", level, 9), 0);
      Trial.due("result()", t.units.result(), 21 + 6 + 30 + 8 + 1);
      int main = 32768 - 32 - 3;
      int f = main - 32 - 5;
      int[] cells = {1, 2, 3};
      for (int i = 0; i < cells.length; i++) {
        Trial.due("main's cell " + i, t.units.peek(main + i), cells[i]);
      }
      int[] inner = {21, 30, 4, 5, 6};
      for (int i = 0; i < inner.length; i++) {
        Trial.due("f's cell " + i, t.units.peek(f + i), inner[i]);
      }
      Trial.due("cell before f's", t.units.peek(f - 1), 0);
      Trial.due("cell behind f's", t.units.peek(f + 5), 0);
      Trial.due("cell before main's", t.units.peek(main - 1), 0);
      Trial.due("cell behind main's", t.units.peek(main + 3), 0);
      Trial.due("peek(32768)", t.units.peek(32768), 0);
      Trial.due("peek(-1)", t.units.peek(-1), 0);
      Trial.due("peek(0)", t.units.peek(0), 0);
      Trial.due("peek(15)", t.units.peek(15), 0);
    }
    // What a frame leaves stays until something is put there.
    Trial.gives(7, "int *p; int f() { int x = 7; p = &x; return 0; } int main() { f(); return *p; }");
    Trial.gives(9, "int f() { int x[1]; int *p = &x[0]; return p[33]; } int main() { int y = 9; &y; return f(); }");
  }

  private static void loops() {
    Trial.gives(45, Trial.main("int i; int s = 0; for (i = 0; i < 10; i++) s += i; return s;"));
    Trial.gives(5, Trial.main("int i = 0; while (1) { if (i == 5) break; i++; } return i;"));
    Trial.gives(1, Trial.main("int i = 0; do i++; while (0); return i;"));
    Trial.gives(25, Trial.main("int i; int s = 0; for (i = 0; i < 10; i++) { if (i % 2 == 0) continue; s += i; } return s;"));
    Trial.gives(25, Trial.main("int i = 0; int s = 0; while (i < 10) { i++; if (i % 2 == 0) continue; s += i; } return s;"));
    Trial.gives(25, Trial.main("int i = 0; int s = 0; do { i++; if (i % 2 == 0) continue; s += i; } while (i < 10); return s;"));
    Trial.gives(1, Trial.main("int i = 0; do { i++; continue; } while (0); return i;"));
    Trial.gives(6, Trial.main("int i; int j; int s = 0; for (i = 0; i < 3; i++) for (j = 0; ; j++) { if (j > i) break; s++; } return s;"));
    Trial.gives(3, Trial.main("int n = 0; for (;;) if (++n == 3) return n;"));
    Trial.gives(4, Trial.main("int n = 0; while (n < 4) if (n < 9) n++; else return 9; return n;"));
    Trial.gives(2, Trial.main("if (0) return 1; else return 2;"));
    Trial.gives(2, Trial.main("if (1) if (0) return 1; else return 2; return 3;"));
    Trial.gives(3, Trial.main("if (0) if (0) return 1; else return 2; return 3;"));
    Trial.gives(1, Trial.main("int a[1]; if (a) return 1; return 2;"));
    Trial.gives(3, Trial.main("int *p = \"abc\"; int n = 0; for (; *p; p++) n++; return n;"));
    Trial.gives(10, Trial.main("int n = 0; while (1) { while (1) { if (n > 4) break; n++; } n += 5; break; } return n;"));
    Trial.gives(0, "int main() { }");
    Trial.gives(0, "int f() { } int main() { return f(); }");
    Trial.gives(0, "int *f() { } int main() { return f() != 0; }");
  }

  private static void calls() {
    Trial.gives(120, "int f(int n) { return n < 2 ? 1 : n * f(n - 1); } int main() { return f(5); }");
    Trial.gives(3, "int g; void f(int n) { if (n == 3) return; g++; f(n + 1); } int main() { f(0); return g; }");
    Trial.gives(12345678, "int f(int a, int b, int c, int d, int e, int f, int g, int h)"
        + " { return ((((((a * 10 + b) * 10 + c) * 10 + d) * 10 + e) * 10 + f) * 10 + g) * 10 + h; }"
        + " int main() { return f(1, 2, 3, 4, 5, 6, 7, 8); }");
    Trial.gives(1, "int f(int a) { a = 9; return a; } int main() { int a = 1; f(a); return a; }");
    Trial.gives(9, "void f(int *a) { *a = 9; } int main() { int a = 1; f(&a); return a; }");
    Trial.gives(6, "int sum(int *p, int n) { return n ? *p + sum(p + 1, n - 1) : 0; }"
        + " int main() { int a[3] = { 1, 2, 3 }; return sum(a, 3); }");
    Trial.gives(7, "int even(int n); int odd(int n) { return n ? even(n - 1) : 0; }"
        + " int even(int n) { return n ? odd(n - 1) : 1; } int main() { return even(8) * 7 + odd(8); }");
    Trial.gives(2, "int f(int x) { x++; int *p = &x; return *p; } int main() { return f(1); }");
  }

  private static void data() {
    Trial.gives(97 + 98, "int *p = \"ab\"; int main() { return p[0] + p[1] + p[2]; }");
    Trial.gives(1, "int *p = \"a\"; int *q = \"a\"; int main() { return p != q; }");
    Trial.gives('z', "int *f() { return \"abc\"; } int main() { *f() = 'z'; return *f(); }");
    Trial.gives(30, "int a[] = { 10, 20, 30 }; int *p = 2 + a; int main() { return *p; }");
    Trial.gives(10, "int a[] = { 10, 20, 30 }; int *p = a + 5 - 5; int main() { return *p; }");
    Trial.gives(9, "int a[2] = { 4, 5 }; int *b[] = { a, a + 1 }; int **c = b; int main() { return *c[0] + **(c + 1); }");
    Trial.gives(8, "extern int x; int *p = &x; int x = 8; int main() { return *p; }");
    Trial.gives(-4, "int a = -(1 << 2), b = !0; int main() { return a * b; }");
    for (int level = 0; level <= 3; level++) {
      Trial t = new Trial();
      t.go("int a = 1; int *s = \"xy\"; int b[3] = { 7, 8 }; int c[4] = \"no\"; int *e = b + 1;"
          + " int f() { return *\"q\"; } static int g = 5; int main() { return 0; }", level, 1);
      int[] want = {1, 18, 'x', 'y', 0, 7, 8, 0, 'n', 'o', 0, 0, 22, 'q', 0, 5};
      for (int i = 0; i < want.length; i++) {
        Trial.due("data " + i, t.units.peek(16 + i), want[i]);
      }
      Trial.due("behind the data", t.units.peek(16 + want.length), 0);
    }
  }
}
