/** Term 5 and what term 6 adds to it: each sentence, and both sides of each edge in it. */
final class EdgesOfRunning {
  private EdgesOfRunning() {
  }

  private static final String LIB = "int get(void); void put(int); void print(int); void stop(int);\n";
  private static final String SAY = LIB + "int say(int x) { print(x); return x; } int g, a[4], *p, *zero;\n";

  static void ask() {
    beginning();
    numbers();
    orderOfWork();
    steps();
    deciding();
    locals();
    declarations();
    turns();
    outcomes();
    quotients();
    cells();
    framesTooLow();
    fuel();
    output();
    placesOfTraps();
    whenCellsAreLookedAt();
    inputAndOutput();
    callsInOrder();
    statementsThatAreExpressions();
    levels();
  }

  private static void beginning() {
    Sentence.says("5 RUNNING. Begins with memory 0 but for the data, and calls main.");
    for (int level = 0; level <= 3; level++) {
      Trial t = new Trial();
      t.go("int a = 5, b; int f() { return 9; } int main() { a++; b = a; *(int *) 100 = 7; *(int *) 32767 = 8; int x[3]; x[1] = 4; return a; }", level, 9);
      Trial.due("result()", t.units.result(), 6);
      Trial.due("run", t.units.run(9), 0);
      Trial.due("result()", t.units.result(), 6);
      Trial.due("run(0)", t.units.run(0), 4);
      for (int i = 0; i <= 32768; i++) {
        if (i == 16 || t.units.peek(i) != 0) {
          Trial.due("peek(" + i + ") behind a run(0)", t.units.peek(i), i == 16 ? 5 : 0);
        }
      }
    }
  }

  private static void numbers() {
    Sentence.says("Ints wrap; / and % cut towards 0 (the least by -1 is itself, rest 0); shifts by the lowest 5 bits, >> with sign.");
    int[] values = {0, 1, -1, 2, -2, 7, -7, 31, 32, 33, 63, 64, -31, -32, -33, 255, 65536, 0x7fffffff, 0x80000000, 0x80000001, 0x7ffffffe};
    StringBuilder constants = new StringBuilder(LIB + "int main() {");
    StringBuilder want = new StringBuilder();
    for (int x : values) {
      Trial t = new Trial();
      StringBuilder text = new StringBuilder(LIB + "int x = " + hex(x) + "; void two(int y) { print(x + y); put(32); print(x - y); put(32);"
          + " print(x * y); put(32); print(x << y); put(32); print(x >> y); put(32); if (y) { print(x / y); put(32); print(x % y); put(32); } } int main() {");
      want.setLength(0);
      for (int y : values) {
        text.append(" two(" + hex(y) + ");");
        want.append(x + y).append(' ').append(x - y).append(' ').append(x * y).append(' ').append(x << (y & 31)).append(' ').append(x >> (y & 31)).append(' ');
        if (y != 0) {
          want.append((int) ((long) x / y)).append(' ').append((int) ((long) x % y)).append(' ');
        }
      }
      text.append(" }");
      Trial.due("run with " + x, t.go(text.toString(), x & 3, 999), 0);
      Trial.due("printed with " + x, t.printed(), want.toString());
    }
    for (int x : values) {
      constants.append(" print(- " + hex(x) + "); put(32); print(~" + hex(x) + "); put(32); print(!" + hex(x) + "); put(10);");
    }
    constants.append(" }");
    want.setLength(0);
    for (int x : values) {
      want.append(-x).append(' ').append(~x).append(' ').append(x == 0 ? 1 : 0).append('\n');
    }
    Trial.ends(0, 0, want.toString(), constants.toString());
    Trial.gives(0x80000000, Trial.main("int x = 0x80000000; int y = -1; return x / y;"));
    Trial.gives(0, Trial.main("int x = 0x80000000; int y = -1; return x % y;"));
    Trial.gives(0x80000000, Trial.main("int x = 0x80000000; x /= -1; return x;"));
    Trial.gives(0, Trial.main("int x = 0x80000000; x %= -1; return x;"));
    Trial.gives(0x80000000, Trial.main("int x = 2147483647; x++; return x;"));
    Trial.gives(0x7fffffff, Trial.main("int x = 0x80000000; --x; return x;"));
    Trial.gives(0x80000000, Trial.main("int x = 0x80000000; return -x;"));
    Trial.gives(1, Trial.main("int *x = (int *) 0x7fffffff; x++; return (int) x == 0x80000000;"));
  }

  private static String hex(int x) {
    return "0x" + Integer.toHexString(x);
  }

  private static void orderOfWork() {
    Sentence.says("What is worked out goes from the left; of an assignment the place's parts first, then (with an operator) what stands there, then the right side, then it is put.");
    for (String sign : new String[] {"+", "-", "*", "/", "%", "&", "|", "^", "<<", ">>", "<", ">", "<=", ">=", "==", "!="}) {
      Trial t = new Trial();
      Trial.due("run", t.go(SAY + "int main() { say(1) " + sign + " say(2) " + sign + " say(3); return 0; }", sign.length(), 99), 0);
      Trial.due("order of " + sign, t.printed(), "123");
    }
    Trial.ends(0, 0, "1234", SAY + "int f(int w, int x, int y, int z) { return 0; } int main() { return f(say(1), say(2), say(3), say(4)); }");
    Trial.ends(0, 0, "12", SAY + "int main() { a[say(1)] = say(2); return a[2]; }");
    Trial.ends(0, 0, "12", SAY + "int main() { a[say(1)] += say(2); return a[2]; }");
    Trial.ends(0, 0, "012", SAY + "int *at(int i) { print(i); return a + i; } int main() { at(0)[say(1)] = say(2); return 0; }");
    Trial.ends(0, 0, "12", SAY + "int main() { *(a + say(1)) = say(2); return 0; }");
    Trial.gives(3, SAY + "int f() { g = 10; return 1; } int main() { g = 2; g += f(); return g; }");
    Trial.gives(3, SAY + "int f() { a[1] = 10; return 1; } int main() { a[1] = 2; a[1] += f(); return a[1]; }");
    Trial.gives(3, Trial.main("int x = 2; x += (x = 10) - 9; return x;"));
    Trial.gives(3, Trial.main("int x = 2; int *y = &x; *y += (x = 10) - 9; return x;"));
    Trial.gives(1, SAY + "int f() { g = 10; return 1; } int main() { g = f(); return g; }");
    Trial.gives(7, Trial.main("int x = 2; x = (x = 10) - 3; return x;"));
    Trial.gives(5, SAY + "int main() { int i = 1; a[i] = (i = 2) + 3; return a[1]; }");
    Trial.gives(5, SAY + "int main() { int i = 1; p = a; *p = (p = 0) == 0 ? 5 : 6; return a[0]; }");
    Trial.gives(12, SAY + "int f() { g = 10; return 2; } int main() { g = 5; return f() + g; }");
    Trial.gives(7, SAY + "int f() { g = 10; return 2; } int main() { g = 5; return g + f(); }");
    Trial.gives(7, Trial.main("int x = 5; return x + (x = 2);"));
    Trial.gives(4, Trial.main("int x = 5; return (x = 2) + x;"));
    Sentence.says("a [ b ]: the pointer a is worked out (read) first, then b; under & the cell is not read.");
    Trial.gives(6, SAY + "int main() { a[1] = 6; int b[2] = { 7, 8 }; int *q = a; return q[(q = b) == b]; }");
    Trial.gives(6, SAY + "int f() { p = 0; return 1; } int main() { a[1] = 6; p = a; return p[f()]; }");
    Trial.ends(2, 0, "", SAY + "int main() { int **q = 0; return q[0][say(1)]; }");
    Trial.ends(2, 0, "1", SAY + "int main() { return zero[say(1)]; }");
    Trial.gives(-1, SAY + "int main() { return (int) &zero[-1]; }");
    Trial.gives(40000, SAY + "int main() { int *q = &zero[40000]; return (int) q; }");
    Trial.traps(2, 1, Trial.main("int **q = 0; &q[0][1]; return 0;"));
  }

  private static void steps() {
    Sentence.says("++ and -- before a place give the new value, behind it the old.");
    for (String place : new String[] {"x", "(*q)", "y[1]", "g", "h[1]", "b", "(*&x)"}) {
      String head = "int g = 5, h[2] = { 0, 5 }; int main() { int x = 5, y[2] = { 0, 5 }, b = 5, *q = y + 1; &b; ";
      Trial.gives(5006, head + "int r = " + place + "++; return r * 1000 + " + place + "; }");
      Trial.gives(6006, head + "int r = ++" + place + "; return r * 1000 + " + place + "; }");
      Trial.gives(5004, head + "int r = " + place + "--; return r * 1000 + " + place + "; }");
      Trial.gives(4004, head + "int r = --" + place + "; return r * 1000 + " + place + "; }");
    }
    Trial.gives(34, Trial.main("int a[3] = { 3, 4, 5 }; int *p = a; int r = *p++ * 10; return r + *p;"));
    Trial.gives(44, Trial.main("int a[3] = { 3, 4, 5 }; int *p = a; int r = *++p * 10; return r + *p;"));
  }

  private static void deciding() {
    Sentence.says("&& || ? : work out only what decides.");
    Trial.ends(0, 0, "0", SAY + "int main() { return say(0) && say(1); }");
    Trial.ends(0, 1, "12", SAY + "int main() { return say(1) && say(2); }");
    Trial.ends(0, 0, "10", SAY + "int main() { return say(1) && say(0); }");
    Trial.ends(0, 1, "1", SAY + "int main() { return say(1) || say(2); }");
    Trial.ends(0, 1, "02", SAY + "int main() { return say(0) || say(2); }");
    Trial.ends(0, 0, "00", SAY + "int main() { return say(0) || say(0); }");
    Trial.ends(0, 2, "12", SAY + "int main() { return say(1) ? say(2) : say(3); }");
    Trial.ends(0, 3, "03", SAY + "int main() { return say(0) ? say(2) : say(3); }");
    Trial.ends(0, 1, "01", SAY + "int main() { return say(0) && say(1) || say(1); }");
    Trial.gives(4, Trial.main("return 0 && 1 / 0 || 1 ? 4 : 1 / 0;"));
    Trial.gives(3, SAY + "int main() { 0 && (g = 1); 1 || (g = 2); 1 ? 0 : (g = 4); return g + 3; }");
    Trial.gives(1, Trial.main("return -1 && 0x80000000;"));
  }

  private static void locals() {
    Sentence.says("A LOCAL has no cell unless it is an array or & works on its NAME (or that in brackets) alone somewhere in the function.");
    int top = 32768 - 32;
    frame(0, "int x = 5; int *q = 0; x++; return x;");
    frame(1, "int x = 5; &x; return x;", 5);
    frame(1, "int x = 5; &(x); return x;", 5);
    frame(1, "int x = 5; &((x)); return x;", 5);
    frame(1, "int x = 5; if (0) &x; return x;", 5);
    frame(1, "int x = 5; return x; &x;", 5);
    frame(1, "int x = 5; 0 && &x; return x;", 5);
    frame(1, "int x[1]; x[0] = 5; return 5;", 5);
    frame(0, "int *x = 0; &x[1]; &*x; return 5;");
    frame(0, "int *x = (int *) 100; &x[0]; (&*x)[0] = 5; return *x;");
    frame(1, "int *x = (int *) 100; &x[0]; &x; return 5;", 100);
    frame(2, "int x = 5; { int x = 6; &x; } &x; return x;", 5, 6);
    frame(1, "int x = 5; { int x = 6; &x; } return x;", 6);
    Trial.due("the frame of main", top, 32736);
    Sentence.says("Locals (and parameters) with cells have them from the function's FRAME on, in the order of the text (in all blocks; each its own): a frame begins at the frame before it (32768 for main's) less 32 and the cells of the function.");
    frame(6, "int a = 1; int b[2] = { 2, 3 }; int c = 9; { int d = 4; &d; } { int e = 5; &e; } int f = 6; &a; &f; return 5;", 1, 2, 3, 4, 5, 6);
    frame(3, "int i; for (i = 0; i < 3; i++) { int x = i; &x; } for (;;) { int y[2] = { 8, 9 }; break; } return 5;", 2, 8, 9);
    for (int level = 0; level <= 3; level++) {
      Trial t = new Trial();
      t.go("int f(int a, int b, int c) { int d = 4; int e[1] = { 5 }; &c; &a; &d; return (int) &a; }"
          + " int g(int x) { int y[3] = { 7, 7, 7 }; return f(1, 2, 3); } int main() { int z = 8; &z; return g(6); }", level, 9);
      int main = 32768 - 32 - 1;
      int g = main - 32 - 3;
      int f = g - 32 - 4;
      Trial.due("result()", t.units.result(), f);
      int[] at = {main, g, g + 1, g + 2, f, f + 1, f + 2, f + 3, f - 1, f + 4, main + 1, main - 1};
      int[] want = {8, 7, 7, 7, 1, 3, 4, 5, 0, 0, 0, 0};
      for (int i = 0; i < at.length; i++) {
        Trial.due("peek(" + at[i] + ")", t.units.peek(at[i]), want[i]);
      }
    }
    allParametersHaveCells();
  }

  /** Eight parameters with cells: they fill their frame and nothing above it. */
  private static void allParametersHaveCells() {
    for (int level = 0; level <= 3; level++) {
      Trial t = new Trial();
      t.go("int f(int a, int b, int c, int d, int e, int g, int h, int i) { &a; &b; &c; &d; &e; &g; &h; &i; return (int) &a; }"
          + " int main() { int z[40], k; for (k = 0; k < 40; k++) z[k] = 100 + k; return f(1, 2, 3, 4, 5, 6, 7, 8); }", level, 99);
      int main = 32768 - 32 - 40;
      int f = main - 32 - 8;
      Trial.due("result()", t.units.result(), f);
      for (int i = -40; i < 8 + 32 + 40 + 32; i++) {
        int want = i >= 0 && i < 8 ? i + 1 : i >= 40 && i < 80 ? 60 + i : 0;
        Trial.due("peek(" + (f + i) + ")", t.units.peek(f + i), want);
      }
      // Many locals without cells take no room in the frame.
      StringBuilder many = new StringBuilder("int f(int a, int b) { &a; ");
      for (int i = 0; i < 98; i++) {
        many.append("int z").append(i).append(" = 7; ");
      }
      Trial u = new Trial();
      u.go(many + "return (int) &a; } int main() { f(5, 6); return f(3, 4); }", level, 99);
      f = 32768 - 32 - 32 - 1;
      Trial.due("result()", u.units.result(), f);
      for (int i = 24576; i < 32768; i++) {
        if (i == f || u.units.peek(i) != 0) {
          Trial.due("peek(" + i + ")", u.units.peek(i), i == f ? 3 : 0);
        }
      }
    }
  }

  /** The cells of main's frame, and that none stand around them. */
  private static void frame(int cells, String statements, int... want) {
    for (int level = 0; level <= 3; level++) {
      Trial t = new Trial();
      Trial.due("run of " + statements, t.go(Trial.main(statements), level, 99), 0);
      int frame = 32768 - 32 - cells;
      for (int i = 0; i < cells; i++) {
        Trial.due("frame cell " + i + " of " + statements, t.units.peek(frame + i), want[i]);
      }
      Trial.due("before the frame of " + statements, t.units.peek(frame - 1), 0);
      Trial.due("behind the frame of " + statements, t.units.peek(frame + cells), 0);
    }
  }

  private static void declarations() {
    Sentence.says("When a local's declaration is come to it becomes 0 (an array all 0), then what = says. break, continue as usual; the end of a function with a result gives 0.");
    Trial.gives(0, Trial.main("int x; return x;"));
    Trial.gives(0, Trial.main("int i, s = 0; for (i = 0; i < 3; i++) { int x; s += x; x = 9; } return s;"));
    Trial.gives(0, Trial.main("int i, s = 0; for (i = 0; i < 3; i++) { int x; s += x; x = 9; &x; } return s;"));
    Trial.gives(0, Trial.main("int i, s = 0; for (i = 0; i < 3; i++) { int x[3]; s += x[0] + x[1] + x[2]; x[0] = x[1] = x[2] = 9; } return s;"));
    Trial.gives(4, Trial.main("int x = x + 4; return x;"));
    Trial.gives(4, Trial.main("int i, s; for (i = 0; i < 3; i++) { int x = x + 4; s = x; } return s;"));
    Trial.gives(0, "int f() { } int main() { return f(); }");
    Trial.gives(0, "int f(int x) { if (x) return 5; } int main() { return f(0); }");
    Trial.gives(1, "int *f() { } int main() { return f() == 0; }");
    Trial.gives(0, "int main() { }");
    Trial.gives(0, "int f(int x) { x = 8; } int main() { return f(7); }");
    Trial.gives(0, "int f(int x, int y) { int z = 9; z++; } int main() { int w = 6; return f(7, 8); }");
    Trial.gives(0, "int f(int x) { int y = 9; if (x < 0) return 1; while (x) x--; } int main() { return f(3); }");
    Trial.gives(4, "int f(int x) { int y = 9; } int main() { return 4 + f(3) * 5; }");
    Trial.gives(0, Trial.main("int x = 5; x + 1;"));
    Trial.gives(3, Trial.main("int i; for (i = 0; ; i++) if (i == 3) break; return i;"));
    Trial.gives(6, Trial.main("int i, s = 0; for (i = 0; i < 4; i++) { if (i < 0) continue; s += i; } return s;"));
    Trial.gives(4, Trial.main("int i, s = 0; for (i = 0; i < 4; i++) { if (i & 1) continue; s += i + 1; } return s;"));
    Trial.gives(2, Trial.main("int i = 0, s = 0; while (i < 4) { i++; if (i & 1) continue; s++; } return s;"));
    Trial.gives(2, Trial.main("int i = 0, s = 0; do { i++; if (i & 1) continue; s++; } while (i < 4); return s;"));
    Trial.gives(1, Trial.main("int i = 0; do { i++; continue; } while (0); return i;"));
    Trial.gives(9, Trial.main("int i, j, s = 0; for (i = 0; i < 3; i++) for (j = 0; ; j++) { if (j == 3) break; s++; } return s;"));
    Sentence.says("A local array's { } : all cells become 0, then each expression is worked out and put before the next one.");
    Trial.gives(111, Trial.main("int x[3] = { 1, x[0] * 10, x[0] * 100 }; return x[0] + x[1] + x[2];"));
    Trial.gives(0, Trial.main("int x[3] = { x[1], x[2] }; return x[0] + x[1] + x[2];"));
    Trial.gives(12, Trial.main("int i, s = 0; for (i = 0; i < 2; i++) { int x[3] = { 1, x[2] + 5 }; s += x[0] + x[1]; x[2] = 7; } return s;"));
    Trial.ends(1, 0, "12", SAY + "int main() { int x[3] = { say(1), say(2), 1 / 0 }; return 0; }");
    Trial.gives(7, SAY + "int f(int *q) { q[1] = 7; return 1; } int main() { int x[3] = { f(x) }; return x[1]; }");
    Trial.gives(2, SAY + "int f(int *q) { q[1] = 7; return 1; } int main() { int x[3] = { f(x), 2 }; return x[1]; }");
    Trial.gives('b', Trial.main("int i, s; for (i = 0; i < 2; i++) { int x[3] = \"ab\"; s = x[1] + x[2]; x[2] = 9; } return s;"));
  }

  private static void ran(int fuel, int outcome, int turns, int line, String text) {
    for (int level = 0; level <= 3; level++) {
      Trial t = new Trial();
      Trial.due("run(" + fuel + ") of " + text, t.go(text, level, fuel), outcome);
      Trial.due("turns() of " + text, t.units.turns(), turns);
      Trial.due("trap(0) of " + text, t.units.trap(0), line > 0 ? 1 : 0);
      Trial.due("trap(1) of " + text, t.units.trap(1), line);
    }
  }

  private static void turns() {
    Sentence.says("TURNS are counted: each call of a function of the units (main too), and each time the body of a while, do or for is begun.");
    ran(99, 0, 1, 0, "int main() { }");
    ran(99, 0, 1, 0, "int main() { { { } } if (1) ; else ; 1 ? 2 : 3; 1 && 2; }");
    ran(99, 0, 2, 0, "void f() { } int main() { f(); }");
    ran(99, 0, 5, 0, "int f(int n) { return n ? f(n - 1) : 0; } int main() { return f(3); }");
    for (int n = 0; n <= 3; n++) {
      ran(99, 0, 1 + n, 0, "int main() { int i = " + n + "; while (i) i--; }");
      ran(99, 0, 1 + n, 0, "int main() { int i; for (i = 0; i < " + n + "; i++) ; }");
      ran(99, 0, 1 + Math.max(n, 1), 0, "int main() { int i = " + n + "; do i--; while (i > 0); }");
      ran(99, 0, 1 + n * n + n, 0, "int main() { int i, j; for (i = 0; i < " + n + "; i++) for (j = 0; j < " + n + "; j++) { } }");
    }
    ran(99, 0, 2, 0, "int main() { while (1) break; }");
    ran(99, 0, 2, 0, "int main() { for (;;) break; }");
    ran(99, 0, 2, 0, "int main() { do break; while (1); }");
    ran(99, 0, 4, 0, "int main() { int i = 3; while (i--) continue; }");
    ran(99, 0, 1, 0, LIB + "int main() { print(get()); put(1); }");
    ran(99, 5, 1, 0, LIB + "int main() { stop(1); }");
  }

  private static void outcomes() {
    Sentence.says("OUTCOMES: 0 main returned (its value is the result); 5 stop(x) (x is).");
    for (int x : new int[] {0, 1, -1, 5, 255, 256, 0x7fffffff, 0x80000000}) {
      Trial.ends(0, x, "", Trial.main("return " + hex(x) + ";"));
      Trial.ends(5, x, "", LIB + Trial.main("stop(" + hex(x) + ");"));
      Trial.ends(5, x, "", LIB + "int f(int n) { if (n) return f(n - 1) + 1; stop(" + hex(x) + "); return 9; } " + Trial.main("return f(9);"));
    }
    Trial.ends(0, 0, "", Trial.main(";"));
    Trial.ends(5, 3, "7", LIB + Trial.main("print(7); stop(3); print(8); return 4;"));
  }

  private static void quotients() {
    Sentence.says("TRAPS: 1 / or % by 0;");
    for (String sign : new String[] {"/", "%"}) {
      Trial.traps(1, 1, Trial.main("return 1 " + sign + " 0;"));
      Trial.traps(1, 1, Trial.main("int z = 0; return 0 " + sign + " z;"));
      Trial.traps(1, 1, Trial.main("int z = 0, x = 0x80000000; return x " + sign + " z;"));
      Trial.traps(1, 1, Trial.main("int z = 0, x = 1; x " + sign + "= z;"));
      Trial.traps(1, 1, Trial.main("int z[1]; z[0] " + sign + "= *z;"));
      Trial.gives(0, Trial.main("int o = 1; return 0 " + sign + " o;"));
      Trial.gives(0, Trial.main("int o = -1; return 0 " + sign + " o;"));
      Trial.gives(9, Trial.main("if (0) 1 " + sign + " 0; while (0) 1 " + sign + " 0; return 9;"));
    }
  }

  private static void cells() {
    Sentence.says("2 a cell below 16 or above 32767 is read or written;");
    for (int cell : new int[] {15, 0, -1, 32768, 32769, 65536, 0x7fffffff, 0x80000000, 16, 17, 32767}) {
      boolean may = cell >= 16 && cell <= 32767;
      String head = "int main() { int *q = (int *) " + hex(cell) + "; int **r = (int **) q; ";
      for (String use : new String[] {"return *q;", "*q;", "*q = 1;", "q[0];", "q[0] = 1;", "*q += 1;", "*q *= 1;", "++*q;", "(*q)--;", "q[0]++;", "return *q == 1;",
          "int x = *q;", "int x[1] = { *q };", "if (*q) ;", "*r = 0;", "*r;", "*r += 1;", "r[0]++;", "(q + 1)[-1];", "*(q - 0);"}) {
        if (may) {
          Trial.gives(0, head + use + " return 0; }");
        } else {
          Trial.traps(2, 1, head + use + " return 0; }");
        }
      }
      Trial.gives(0, head + "&*q; &q[0]; q; q + 1; !q; q == 0; (int) q; &r; return 0; }");
    }
    Trial.traps(2, 1, "int a[2]; int main() { return a[-1]; }");
    Trial.traps(2, 1, "int a[2]; int main() { return a[32752]; }");
    Trial.gives(0, "int a[2]; int main() { return a[32751]; }");
    Trial.gives(3, "int a[2]; int b = 3; int main() { return a[2]; }");
  }

  private static void framesTooLow() {
    Sentence.says("3 a call whose frame would begin below 24576;");
    String two = "int a[4000], b[4000], ";
    Trial.gives(0, Trial.main(two + "c[160]; return 0;"));
    Trial.traps(3, 0, Trial.main(two + "c[161]; return 0;"));
    Trial.gives(0, "int f() { " + two + "c[128]; return 0; } int main() { return f(); }");
    Trial.traps(3, 1, "int f() { " + two + "c[129]; return 0; } int main() { return f(); }");
    Trial.gives(0, "int f() { " + two + "c[127]; return 0; } int main() { int x; &x; return f(); }");
    Trial.traps(3, 1, "int f() { " + two + "c[128]; return 0; } int main() { int x; &x; return f(); }");
    Trial.gives(0, "int f(int n) { return n ? f(n - 1) : 0; } int main() { return f(254); }");
    Trial.traps(3, 1, "int f(int n) { return n ? f(n - 1) : 0; } int main() { return f(255); }");
    // With one cell a call 33 of the 8192: main's 32 and 247 of them.
    Trial.gives(0, "int f(int n) { &n; return n ? f(n - 1) : 0; } int main() { return f(246); }");
    Trial.traps(3, 1, "int f(int n) { &n; return n ? f(n - 1) : 0; } int main() { return f(247); }");
    Trial.gives(5, "int f() { " + two + "c[128]; return 1; } int main() { return f() + f() + f() + f() + f(); }");
  }

  private static void fuel() {
    Sentence.says("4 the turns would be more than the fuel (the one that would is not counted);");
    ran(0, 4, 0, 0, "int main() { }");
    ran(1, 0, 1, 0, "int main() { }");
    ran(1, 4, 1, 1, "int main() { while (1) ; }");
    ran(5, 4, 5, 1, "int main() { while (1) ; }");
    ran(5, 4, 5, 1, "int main() { do ; while (1); }");
    ran(5, 4, 5, 1, "int main() { for (;;) ; }");
    ran(5, 4, 5, 1, "int f() { return f(); } int main() { return f(); }");
    ran(4, 0, 4, 0, "int main() { int i = 3; while (i--) ; }");
    ran(3, 4, 3, 1, "int main() { int i = 3; while (i--) ; }");
    ran(20000, 4, 20000, 1, "int main() { for (;;) ; }");
    ran(20000, 0, 20000, 0, "int main() { int i; for (i = 0; i < 19999; i++) ; }");
    ran(20000, 4, 20000, 1, "int main() { int i; for (i = 0; i < 20000; i++) ; }");
  }

  private static void output() {
    Sentence.says("6 the 4097th byte is put out.");
    String loop = LIB + "int main() { int i; for (i = 0; i < ";
    for (int level = 0; level <= 3; level++) {
      for (int n = 4095; n <= 4097; n++) {
        Trial t = new Trial();
        Trial.due("run", t.go(loop + n + "; i++) put(i); return 3; }", level, 9999), n > 4096 ? 6 : 0);
        Trial.due("written()", t.units.written(), Math.min(n, 4096));
        Trial.due("result()", t.units.result(), n > 4096 ? 0 : 3);
        Trial.due("out(4094)", t.units.out(4094), 4094 & 255);
        Trial.due("out(4095)", t.units.out(4095), n < 4096 ? -1 : 255);
        Trial.due("out(4096)", t.units.out(4096), -1);
      }
      for (int n = 4090; n <= 4096; n++) {
        Trial t = new Trial();
        Trial.due("run", t.go(loop + n + "; i++) put(i); print(-123); return 3; }", level, 9999), n > 4092 ? 6 : 0);
        Trial.due("written()", t.units.written(), Math.min(n + 4, 4096));
        Trial.due("out", t.units.out(n), n < 4096 ? '-' : -1);
        Trial.due("out", t.units.out(n + 1), n < 4095 ? '1' : -1);
        Trial.due("out", t.units.out(n + 3), n < 4093 ? '3' : -1);
      }
    }
  }

  private static void placesOfTraps() {
    Sentence.says("The trap's place: the object's number and the line of the operator (/ % and assignments with them, * [ ++ -- = and assignment signs as they read or write; of a [ ] the [; of 3, 4 for calls the NAME; of 4 in loops the word while, do or for; of 6 the NAME; main's own call has object 0, line 0).");
    String q = "int z, *q; int main() { int x = 1;\n\n";
    Trial.traps(1, 4, q + "x\n/\nz; }");
    Trial.traps(1, 4, q + "x\n%\nz; }");
    Trial.traps(1, 4, q + "x\n/=\nz; }");
    Trial.traps(1, 4, q + "x\n%=\nz; }");
    Trial.traps(2, 4, q + "x +\n*\nq; }");
    Trial.traps(2, 5, q + "x +\nq\n[\n0\n]; }");
    Trial.traps(2, 4, q + "x;\n* q; }");
    Trial.traps(2, 5, q + "*\nq\n=\n1; }");
    Trial.traps(2, 6, q + "q\n[\n0]\n=\n1; }");
    for (String sign : new String[] {"+=", "-=", "*=", "/=", "%=", "&=", "|=", "^=", "<<=", ">>="}) {
      Trial.traps(2, 5, q + "*\nq\n" + sign + "\n1; }");
      Trial.traps(2, 5, q + "q[0\n]\n" + sign + "\nz; }");
    }
    Trial.traps(2, 4, q + "q[0]\n++; }");
    Trial.traps(2, 4, q + "(*q)\n--; }");
    Trial.traps(2, 3, q + "++\n*\nq; }");
    Trial.traps(2, 3, q + "--\nq\n[0]; }");
    Trial.traps(2, 4, q + "int **r = &q;\n*\n*r; }");
    Trial.traps(2, 5, q + "int **r = 0;\n*\n*\nr; }");
    Trial.traps(2, 4, q + "int **r = 0; r\n[0]\n[1]; }");
    Trial.traps(2, 5, q + "int **r = &q; r\n[0]\n[1]; }");
    Trial.traps(3, 4, "int f(int x)\n{ return\n\nf\n(x); } int main() { return f(1); }");
    ran(1, 4, 1, 3, "int f() { return 1; }\nint main() {\nf\n(\n); }");
    ran(9, 4, 9, 3, "int main()\n{\nwhile\n(1)\n; }");
    ran(9, 4, 9, 3, "int main()\n{\ndo\n;\nwhile\n(1); }");
    ran(9, 4, 9, 3, "int main()\n{\nfor\n(;;)\n; }");
    ran(0, 4, 0, 0, "\n\nint main() { }");
    ran(9, 3, 1, 0, "\n\nint main() { int a[4000], b[4000], c[161]; }");
    Trial.traps(6, 3, LIB + "int main() { int i; for (i = 0; i < 9999; i++)\nput\n(\ni); }");
    Trial.traps(6, 3, LIB + "int main() { int i; for (i = 0; i < 9999; i++)\nprint\n(\ni); }");
    for (int level = 0; level <= 3; level++) {
      Trial t = new Trial();
      t.compile("int pad;", level);
      t.compile("int f(int x);\n\nint main() { return f(0) + f(1); }", level);
      t.compile("int z; int f(int x) {\n\n\n\nreturn x ? 1 / z : 0; }", 3 - level);
      t.units.pick(3);
      t.units.pick(2);
      t.units.link();
      Trial.due("run", t.units.run(9), 1);
      Trial.due("trap(0)", t.units.trap(0), 3);
      Trial.due("trap(1)", t.units.trap(1), 5);
      Trial.due("run", t.units.run(2), 4);
      Trial.due("trap(0)", t.units.trap(0), 2);
      Trial.due("trap(1)", t.units.trap(1), 3);
      Trial.due("run", t.units.run(0), 4);
      Trial.due("trap(0)", t.units.trap(0), 0);
      Trial.due("trap(1)", t.units.trap(1), 0);
    }
  }

  private static void whenCellsAreLookedAt() {
    Sentence.says("(A cell is looked at when it is read or written, not when & is put before it.");
    Trial.gives(1, Trial.main("int *q = 0; &*q; &q[5]; int *r = &*q; return r == 0;"));
    Trial.gives(15, Trial.main("int *q = (int *) 15; return (int) &q[0];"));
    Trial.ends(2, 0, "1", SAY + "int main() { zero[say(1)] = 2; return 0; }");
    Sentence.says("An assignment reads and writes at its sign, ++ and -- at theirs.)");
    Trial.ends(2, 0, "12", SAY + "int main() { zero[say(1)] = say(2); return 0; }");
    Trial.ends(2, 0, "1", SAY + "int main() { zero[say(1)] += say(2); return 0; }");
    Trial.ends(1, 0, "1", SAY + "int main() { zero[say(1)] = 1 / g; return 0; }");
    Trial.traps(2, 2, "int *q, z; int main() {\nq[0] /= z; }");
    Trial.traps(2, 3, "int *q; int main() {\nq[0]\n= 1; }");
    Trial.traps(2, 3, "int *q; int main() {\nq[0]\n++; }");
  }

  private static void inputAndOutput() {
    Sentence.says("get(): the next byte of the input (0 .. 255), -1 behind its end; put(x): the byte x & 255 goes out; print(x): its decimal digits, with - before, one byte after the other.");
    for (int level = 0; level <= 3; level++) {
      Trial t = new Trial();
      for (int b : new int[] {0, 1, 127, 128, 255, 256, -1}) {
        t.units.input(b);
      }
      Trial.due("run", t.go(LIB + "int main() { int i; for (i = 0; i < 9; i++) { print(get()); put(' '); } return get(); }", level, 99), 0);
      Trial.due("printed", t.printed(), "0 1 127 128 255 0 255 -1 -1 ");
      Trial.due("result()", t.units.result(), -1);
      t.go(LIB + "int main() { put(0); put(255); put(256); put(-1); put(0x80000000); put(0x12345641); }", level, 9);
      int[] want = {0, 255, 0, 255, 0, 'A'};
      Trial.due("written()", t.units.written(), want.length);
      for (int i = 0; i < want.length; i++) {
        Trial.due("out(" + i + ")", t.units.out(i), want[i]);
      }
    }
    for (int x : new int[] {0, 1, 9, 10, 11, 99, 100, 101, 999, 1000, 99999, 100000, 999999999, 1000000000, 2147483647, -1, -9, -10, -100, -2147483647, 0x80000000}) {
      Trial.ends(0, 0, "" + x, LIB + Trial.main("print(" + hex(x) + ");"));
    }
  }

  private static void callsInOrder() {
    Sentence.says("Of a call: its arguments, then the turn (4), then the frame (3), then its parameters; the library's count for nothing.");
    String big = "void big(int x) { &x; int a[4000], b[4000], c[161]; } ";
    Trial.ends(3, 0, "1", SAY + big + "int main() { big(say(1)); }");
    for (int level = 0; level <= 3; level++) {
      Trial t = new Trial();
      Trial.due("run(1)", t.go(big + "int main() { big(1); }", level, 1), 4);
      Trial.due("run(2)", t.units.run(2), 3);
      Trial.due("turns()", t.units.turns(), 2);
      Trial.due("run(1)", t.go(big + "int main() { big(1 / 0); }", level, 1), 1);
      Trial.due("run(1)", t.go(big + "int main() { int a[4000], b[4000], c[161]; }", level, 1), 3);
      Trial.due("turns()", t.units.turns(), 1);
      Trial.due("run(0)", t.units.run(0), 4);
      // A parameter is put only where the frame may be.
      Trial.due("run", t.go("void f(int x) { &x; int a[99]; f(7); } int main() { f(7); }", level, 9999), 3);
      int frames = (8192 - 32) / 132;
      int lowest = 32768 - 32 - 132 * frames;
      Trial.due("the last parameter", t.units.peek(lowest), 7);
      Trial.due("the one that is not there", t.units.peek(lowest - 132), 0);
      Trial.due("turns()", t.units.turns(), 2 + frames);
      Trial.due("run", t.go(LIB + "int f(int n) { if (n) return f(n - 1); print(get()); put(1); return 0; } int main() { return f(254); }", level, 256), 0);
      Trial.due("turns()", t.units.turns(), 256);
    }
  }

  private static void statementsThatAreExpressions() {
    Sentence.says("An expression that stands as a statement (or first or last of a for) is worked out like others: * p ; reads its cell, and may trap.");
    Trial.traps(2, 1, Trial.main("int *q = 0; *q; return 0;"));
    Trial.traps(2, 1, Trial.main("int *q = 0; q[1]; return 0;"));
    Trial.traps(2, 1, Trial.main("int *q = 0; (*q); return 0;"));
    Trial.traps(2, 1, Trial.main("int *q = 0; for (*q; 0; ) ; return 0;"));
    Trial.traps(2, 1, Trial.main("int *q = 0; for (; 1; *q) ; return 0;"));
    Trial.gives(3, Trial.main("int *q = 0; for (; 0; *q) ; return 3;"));
    Trial.gives(3, Trial.main("int *q = 0; for (; 1; *q) break; return 3;"));
    Trial.traps(1, 1, Trial.main("1 / 0; return 0;"));
    Trial.gives(3, Trial.main("1; \"s\"; int x; x; &x; -x; !x; (int) x; x == 1; x && x; return 3;"));
  }

  private static void levels() {
    Sentence.says("What is compiled, linked and run is the same at all levels of optimising.");
    String text = LIB + "int t[8] = { 3, 1, 2 }; int *s = \"abc\"; int add(int x, int y) { return x + y; } int main() { int i, n = 2 * 3 - 6, *q = &n;"
        + " for (i = 0; i < 8; i++) { if (1) n += t[i] * (1 << 2); else n = 0; while (0) n = 9; if (0) { n = 7; } *q = add(*q, !i) ; }"
        + " do { put(s[n % 3]); if (n & 1) continue; } while (n-- > 20); print(1 ? n : 1 / 0); return 0 ? 1 : n + (1 && 2) + (0 || i); }";
    Trial[] all = new Trial[4];
    for (int level = 0; level <= 3; level++) {
      all[level] = new Trial();
      Trial.due("run", all[level].go(text, level, 999), all[0].units.run(999));
      Trial.due("result()", all[level].units.result(), all[0].units.result());
      Trial.due("turns()", all[level].units.turns(), all[0].units.turns());
      Trial.due("printed", all[level].printed(), all[0].printed());
      Trial.due("count(1, 1)", all[level].units.count(1, 1), 8 + 1 + 4);
      boolean same = true;
      for (int i = 0; i < 32768; i++) {
        same &= all[level].units.peek(i) == all[0].units.peek(i);
      }
      Trial.due("the memory is the same", same ? 1 : 0, 1);
      for (int fuel = 0; fuel < 12; fuel++) {
        Trial.due("run(" + fuel + ")", all[level].units.run(fuel), 4);
        Trial.due("turns()", all[level].units.turns(), fuel);
        Trial.due("strays()", all[level].units.strays(), 0);
      }
    }
    // One image of objects of all levels.
    for (int k = 0; k < 4; k++) {
      Trial t = new Trial();
      t.compile("int f(int x); int main() { return f(1 + 1); }", k);
      t.compile("int g(int x); int f(int x) { return 1 ? g(x * 2) : 0; }", k + 1 & 3);
      t.compile("int v; int g(int x) { while (1) { v = x; break; } return v + 3 * 3; }", k + 2 & 3);
      for (int o = 1; o <= 3; o++) {
        t.units.pick(o);
      }
      Trial.due("link()", t.units.link(), 0);
      Trial.due("run", t.units.run(4), 0);
      Trial.due("result()", t.units.result(), 13);
      Trial.due("turns()", t.units.turns(), 4);
    }
  }
}
