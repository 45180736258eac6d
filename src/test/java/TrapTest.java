/** Promises 14 to 22 where a run does not just return: outcomes, traps, turns, bytes in and out. */
public final class TrapTest {
  private static final String LIB = "int get(void); void put(int); void print(int); void stop(int);\n";

  public static void main(String[] args) {
    quotients();
    cells();
    cellsThatAreNotLookedAt();
    frames();
    fuel();
    turns();
    stopping();
    input();
    output();
    outputLimit();
    wrongFuel();
    objectsOfTraps();
    afterRuns();
    longRuns();
    Trial.finish("TrapTest");
  }

  private static void quotients() {
    Trial.traps(1, 2, "int z; int main() { return 1\n/ z; }");
    Trial.traps(1, 2, "int z; int main() { return 1\n% z; }");
    Trial.traps(1, 3, "int z; int main() { int x = 1; x\n\n/= z; }");
    Trial.traps(1, 2, "int z; int main() { z\n%= z; }");
    Trial.traps(1, 2, "int z; int main() { int a[1]; a[0]\n%= z; }");
    Trial.traps(1, 1, "int main() { return 0 / 0; }");
    Trial.traps(1, 1, "int main() { return 1 + 1 / (2 - 2); }");
    Trial.gives(3, Trial.main("return 0 && 1 / 0 ? 2 : 3;"));
    Trial.gives(3, Trial.main("return 1 ? 3 : 1 / 0;"));
    Trial.gives(1, Trial.main("return 1 || 1 % 0;"));
    // The right side is worked out first.
    Trial.ends(1, 0, "7", LIB + "int z() { print(7); return 0; } int main() { return 1 / z(); }");
  }

  private static void cells() {
    for (String p : new String[] {"15", "0", "-1", "32768", "0x80000000", "0x7fffffff"}) {
      String at = "int main() { int *p = (int *) (" + p + "); int i = 0;\n";
      Trial.traps(2, 3, at + "return\n*p; }");
      Trial.traps(2, 3, at + "return p\n[\n0]; }");
      Trial.traps(2, 3, at + "\n*p; }");
      Trial.traps(2, 3, at + "*p\n= 1; }");
      Trial.traps(2, 3, at + "p[0]\n= 1; }");
      Trial.traps(2, 3, at + "*p\n+= 1; }");
      Trial.traps(2, 3, at + "p[i]\n/= 0; }");
      Trial.traps(2, 3, at + "p[i]\n++; }");
      Trial.traps(2, 2, at + "++\np[i]; }");
      Trial.traps(2, 2, at + "--\n*p; }");
      Trial.traps(2, 2, at + "if (*p) ; }");
      Trial.traps(2, 3, at + "for (\n*p; ; ) ; }");
    }
    Trial.gives(0, Trial.main("int *p = (int *) 16; return *p;"));
    Trial.gives(0, Trial.main("int *p = (int *) 32767; return *p;"));
    Trial.gives(5, Trial.main("int *p = (int *) 32767; *p = 5; return p[0];"));
    Trial.traps(2, 2, "int main() { int **q = (int **) 16; return\n**q; }");
    Trial.traps(2, 2, "int *a[2]; int main() { return a[0]\n[1]; }");
    Trial.traps(2, 1, "int main() { int *p = 0; int **q = &p; return *\n*\nq; }");
    // It wraps around: the cell is the sum of both as ints.
    Trial.gives(7, Trial.main("int *p = (int *) 0x7fffffff; *(int *) 100 = 7; return p[0x80000000 + 101];"));
  }

  private static void cellsThatAreNotLookedAt() {
    Trial.gives(5, Trial.main("int *p = (int *) 5; return (int) &*p;"));
    Trial.gives(8, Trial.main("int *p = (int *) 5; return (int) &p[3];"));
    Trial.gives(0, Trial.main("int *p = 0; return &*p != 0;"));
    Trial.gives(1, Trial.main("int a[2]; return &a[40000] == a + 40000;"));
    Trial.traps(2, 2, "int main() { int **p = 0; &p\n[0][1]; return 0; }");
    // The place is looked at when it is read or written, not before.
    Trial.ends(2, 0, "1", LIB + "int f() { print(1); return 1; } int main() { int *p = 0; *p = f(); return 0; }");
    Trial.ends(2, 0, "", LIB + "int f() { print(1); return 1; } int main() { int *p = 0; *p += f(); return 0; }");
    Trial.ends(2, 0, "1", LIB + "int f() { print(1); return 1; } int main() { int *p = 0; p[f()] = 1; return 0; }");
    Trial.ends(1, 0, "11", LIB + "int f() { print(1); return 1; } int main() { int *p = 0; p[f()] = f() / 0; return 0; }");
    Trial.ends(2, 0, "", LIB + "int f() { print(1); return 1; } int main() { int **p = 0; return p[0][f()]; }");
  }

  private static void frames() {
    // 255 calls below main find frames of 32 cells above 24576.
    String down = "int f(int n) {\n return n ? f(n - 1) : 7; }\n int main() { return f(";
    Trial.gives(7, down + "254); }");
    Trial.traps(3, 2, down + "255); }");
    Trial.traps(3, 0, "int main() { int a[4000]; int b[4000]; int c[161]; return 0; }");
    Trial.gives(0, "int main() { int a[4000]; int b[4000]; int c[160]; return c[159]; }");
    Trial.traps(3, 3, "void f() { int a[4000]; int b[4000]; int c[129]; }\nint main() {\nf(); return 0; }");
    Trial.gives(1, "void f() { int a[4000]; int b[4000]; int c[128]; }\nint main() {\nf(); f(); f(); return 1; }");
    Trial.traps(3, 1, "int f(int x) { int *p = &x; return f(1); } int main() { return f(1); }");
    for (int level = 0; level <= 3; level++) {
      Trial t = new Trial();
      Trial.due("run", t.go(down + "1000); }", level, 20000), 3);
      Trial.due("the turn is counted before the frame", t.units.turns(), 257);
      Trial.due("run", t.units.run(257), 3);
      Trial.due("run", t.units.run(256), 4);
      Trial.due("turns()", t.units.turns(), 256);
      Trial.due("trap(1)", t.units.trap(1), 2);
      Trial.due("of the first run with a main too large", t.go("int main() { int a[4000], b[4000], c[999]; }", level, 1), 3);
      Trial.due("turns()", t.units.turns(), 1);
      Trial.due("trap(0)", t.units.trap(0), 0);
      Trial.due("without fuel", t.units.run(0), 4);
    }
    // Arguments are worked out before the frame is looked for.
    Trial.ends(3, 0, "1", LIB + "int one() { print(1); return 1; } void f(int x) { int a[4000]; int b[4000]; int c[161]; } int main() { f(one()); }");
    // The library needs no frame.
    Trial.ends(0, 0, "255", LIB + "int f(int n) { if (n) return f(n - 1); print(255); return 0; } int main() { return f(254); }");
  }

  /** How a run with so much fuel ends, how many turns it takes and the line it traps at. */
  private static void fueled(int fuel, int outcome, int turns, int line, String text) {
    for (int level = 0; level <= 3; level++) {
      Trial t = new Trial();
      Trial.due("run(" + fuel + ") of " + text, t.go(text, level, fuel), outcome);
      Trial.due("turns() of " + text, t.units.turns(), turns);
      Trial.due("trap(1) of " + text, t.units.trap(1), line);
      Trial.due("trap(0) of " + text, t.units.trap(0), line > 0 ? 1 : 0);
      Trial.due("trap(2) of " + text, t.units.trap(2), 0);
      Trial.due("trap(-1) of " + text, t.units.trap(-1), 0);
    }
  }

  private static void fuel() {
    fueled(0, 4, 0, 0, "int main() { return 1; }");
    fueled(1, 0, 1, 0, "int main() { return 1; }");
    fueled(10, 4, 10, 2, "int main() {\nwhile (1) ; }");
    fueled(10, 4, 10, 2, "int main() {\nfor (;;) ; }");
    fueled(10, 4, 10, 2, "int main() {\ndo\n; \nwhile (1); }");
    fueled(10, 4, 10, 2, "int f() {\nreturn f(); } int main() { return f(); }");
    fueled(10, 4, 10, 3, "int f() { return 1; } int main() { for (;;) {\n\nf\n(); } }");
    fueled(11, 4, 11, 1, "int f() { return 1; } int main() { for (;;) {\n\nf\n(); } }");
    fueled(1, 4, 1, 2, "int f() { return 1; } int main() { return\nf(); }");
    fueled(2, 0, 2, 0, "int f() { return 1; } int main() { return\nf(); }");
    fueled(1, 4, 1, 2, "int main() {\ndo ; while (0); }");
    fueled(2, 0, 2, 0, "int main() {\ndo ; while (0); }");
    fueled(1, 0, 1, 0, "int main() {\nwhile (0) ; for (; 0; ) ; }");
    fueled(20000, 4, 20000, 1, "int main() { while (1) ; }");
    // A turn comes before the frame, and behind the arguments.
    fueled(1, 1, 1, 2, "int f(int x) { return 1; } int main() { return f(1\n/ 0); }");
    fueled(1, 4, 1, 1, "void f() { int a[4000], b[4000], c[999]; } int main() { f(); }");
  }

  private static void turns() {
    fueled(999, 0, 1 + 10, 0, "int main() { int i; for (i = 0; i < 10; i++) ; return 0; }");
    fueled(999, 0, 1 + 10, 0, "int main() { int i = 10; while (i--) ; return 0; }");
    fueled(999, 0, 1 + 10, 0, "int main() { int i = 9; do ; while (i--); return 0; }");
    fueled(999, 0, 1 + 3 + 9, 0, "int main() { int i; int j; for (i = 0; i < 3; i++) for (j = 0; j < 3; j++) ; return 0; }");
    fueled(999, 0, 1 + 5 + 5, 0, "void f() { } int main() { int i; for (i = 0; i < 5; i++) f(); return 0; }");
    fueled(999, 0, 1 + 3, 0, "int main() { int i; for (i = 0; i < 10; i++) if (i == 2) break; else continue; return 0; }");
    fueled(999, 0, 1 + 3, 0, LIB + "int main() { int i; for (i = 0; i < 3; i++) { put(get()); print(1); } return 0; }");
    fueled(999, 0, 1, 0, "int main() { if (1) { } { { } } return 1 ? 2 : 3; }");
    fueled(999, 0, 1 + 1, 0, "int f() { return 1; } int main() { 0 && f(); 1 || f(); return (0 ? f() : 1) + (1 ? f() : f()) - 2; }");
  }

  private static void stopping() {
    Trial.ends(5, 42, "", LIB + "int main() { stop(42); return 1; }");
    Trial.ends(5, -1, "1", LIB + "void f(int n) { if (n == 0) { print(1); stop(-1); print(2); } f(n - 1); } int main() { f(5); print(3); return 1; }");
    Trial.ends(5, 0, "", LIB + "int f() { stop(0); return 1; } int main() { return 1 + f(); }");
    fueled(3, 5, 1, 0, LIB + "int main() { stop(1); return 0; }");
  }

  private static void input() {
    for (int level = 0; level <= 3; level++) {
      Trial t = new Trial();
      Trial.due("input(65)", t.units.input(65), 1);
      Trial.due("input(-1)", t.units.input(-1), 2);
      Trial.due("input(256)", t.units.input(256), 3);
      Trial.due("input(0x1234)", t.units.input(0x1234), 4);
      String text = LIB + "int main() { int i; for (i = 0; i < 6; i++) { print(get()); put(' '); } return get(); }";
      Trial.due("run", t.go(text, level, 99), 0);
      Trial.due("printed", t.printed(), "65 255 0 52 -1 -1 ");
      Trial.due("result()", t.units.result(), -1);
      Trial.due("input is used up", t.units.input(7), 1);
      Trial.due("run", t.units.run(99), 0);
      Trial.due("printed", t.printed(), "7 -1 -1 -1 -1 -1 ");
      t.units.input(1);
      t.units.input(2);
      Trial.due("run that takes none", t.go("int main() { return 1; }", level, 99), 0);
      Trial.due("input is used up all the same", t.units.input(3), 1);
      Trial.due("run that traps", t.units.run(0), 4);
      Trial.due("input is used up all the same", t.units.input(4), 1);
    }
    LinkedUnits x = new LinkedUnits();
    for (int i = 1; i <= 4096; i++) {
      Trial.due("input " + i, x.input(i), i);
    }
    Trial.due("input 4097", x.input(1), -1);
  }

  private static void output() {
    Trial.ends(0, 0, "0 -1 2147483647 -2147483648 10 -10 100 99", LIB + "int main() { int least = 0x80000000;"
        + " print(0); put(32); print(-1); put(' '); print(2147483647); put(32); print(least); put(32);"
        + " print(10); put(32); print(-10); put(32); print(100); put(32 + 256); print(99); return 0; }");
    for (int level = 0; level <= 3; level++) {
      Trial t = new Trial();
      t.go(LIB + "int main() { put(255); put(-1); put(256); put(0x1ff); put(127); return 0; }", level, 9);
      int[] want = {255, 255, 0, 255, 127};
      Trial.due("written()", t.units.written(), 5);
      for (int i = 0; i < want.length; i++) {
        Trial.due("out(" + i + ")", t.units.out(i), want[i]);
      }
      Trial.due("out(5)", t.units.out(5), -1);
      Trial.due("out(-1)", t.units.out(-1), -1);
      Trial.due("out(MAX)", t.units.out(Integer.MAX_VALUE), -1);
      Trial.due("out(MIN)", t.units.out(Integer.MIN_VALUE), -1);
      Trial.due("run", t.units.run(0), 4);
      Trial.due("written()", t.units.written(), 0);
      Trial.due("out(0)", t.units.out(0), -1);
    }
  }

  private static void outputLimit() {
    for (int level = 0; level <= 3; level++) {
      Trial t = new Trial();
      Trial.due("run", t.go(LIB + "int main() { int i; for (i = 0; i < 4096; i++) put(i); return 1; }", level, 9999), 0);
      Trial.due("written()", t.units.written(), 4096);
      Trial.due("out(4095)", t.units.out(4095), 255);
      Trial.due("run", t.go(LIB + "int main() { int i; for (i = 0; i < 4097; i++)\n\nput(i); return 1; }", level, 9999), 6);
      Trial.due("written()", t.units.written(), 4096);
      Trial.due("turns()", t.units.turns(), 4098);
      Trial.due("trap(0)", t.units.trap(0), 2);
      Trial.due("trap(1)", t.units.trap(1), 4);
      Trial.due("result()", t.units.result(), 0);
      Trial.due("run", t.go(LIB + "int main() { int i; for (i = 0; i < 4094; i++) put('x'); print\n(-345); return 1; }", level, 9999), 6);
      Trial.due("written()", t.units.written(), 4096);
      Trial.due("out(4094)", t.units.out(4094), '-');
      Trial.due("out(4095)", t.units.out(4095), '3');
      Trial.due("trap(1)", t.units.trap(1), 2);
      Trial.due("run", t.go(LIB + "int main() { int i; for (i = 0; i < 4094; i++) put('x'); print(-3); return 1; }", level, 9999), 0);
    }
  }

  private static void wrongFuel() {
    Trial t = new Trial();
    Trial.due("run(5) without image", t.units.run(5), -1);
    Trial.due("run(-5) without image", t.units.run(-5), -1);
    t.give("ab");
    Trial.due("run", t.go(LIB + "int g; int main() { print(get()); g = 3; return 1 / (get() + 1); }", 2, 9), 0);
    t.give("cd");
    for (int fuel : new int[] {-1, 20001, Integer.MIN_VALUE, Integer.MAX_VALUE}) {
      Trial.due("run(" + fuel + ")", t.units.run(fuel), -2);
    }
    Trial.due("printed stays", t.printed(), "97");
    Trial.due("turns() stays", t.units.turns(), 1);
    Trial.due("peek(16) stays", t.units.peek(16), 3);
    Trial.due("the input stays", t.units.input('e'), 3);
    Trial.due("run", t.units.run(20000), 0);
    Trial.due("printed", t.printed(), "99");
  }

  private static void objectsOfTraps() {
    for (int level = 0; level <= 3; level++) {
      Trial t = new Trial();
      t.compile("int pad() { return 1; }", level);
      t.compile("int divide(int a, int b) {\n\n\n\n return a / b; }", 3 - level);
      t.compile("int divide(int a, int b);\nint main() { return\n divide(1, 0); }", level);
      t.compile("int unused() { return 2; }", level);
      t.units.pick(3);
      t.units.pick(2);
      Trial.due("link()", t.units.link(), 0);
      Trial.due("run", t.units.run(9), 1);
      Trial.due("trap(0)", t.units.trap(0), 2);
      Trial.due("trap(1)", t.units.trap(1), 5);
      Trial.due("run", t.units.run(1), 4);
      Trial.due("trap(0)", t.units.trap(0), 3);
      Trial.due("trap(1)", t.units.trap(1), 3);
    }
  }

  /** Nothing is left behind by statements that are worked out 20000 times. */
  private static void longRuns() {
    String[] bodies = {
      "x; x; x; x; x; x; x; x; x; x;",
      "1; \"s\"; x + 1; -x; x = 1; x++; *p; *p = 1; (*p)++; a[1];",
      "int y; int z = x; int *q = p; int b[2] = { 1, 2 }; int c[] = \"ab\"; int d = z, e = y;",
      "int b[1], c[2], d[1 + 1], e[3 - 2], f[-(-1)], y[!0], z[2 << 1], u[1], v[1], w[1] = { 1 };",
      "x && x; x || x; x ? x : 1; !x; x += 1; a[0] -= 1; *p = x; &x; (int) p; p == a;",
      "g(); f(1); g(); f(x); get(); g(); f(f(1)); get(); g(); f(2) + f(3);",
      "if (x) x = 0; else x = 1; do x++; while (x < 0); while (x > 5) x = 0; for (x; x < 0; x++) ; for (x; 0; x) ;",
      "if (x++ & 1) continue; x; x; x; x; { x; { x; x; } x; } x; x; x; if (!x) break;",
    };
    for (String body : bodies) {
      for (int level = 0; level <= 3; level++) {
        Trial t = new Trial();
        Trial.due("run of " + body, t.go(LIB + "int g0; void g() { g0; g0++; } int f(int n) { n; return n; }"
            + " int main() { int x = 1; int a[2]; int *p = a; for (;;) { " + body + " } }", level, 20000), 4);
        Trial.due("turns() of " + body, t.units.turns(), 20000);
        Trial.due("strays() of " + body, t.units.strays(), 0);
      }
    }
  }

  private static void afterRuns() {
    for (int level = 0; level <= 3; level++) {
      Trial t = new Trial();
      t.go("int g = 5; int h; int main() { g++; h = g; if (h == 6) return 1 / (g - 6); return 1; }", level, 9);
      Trial.due("trap(1)", t.units.trap(1), 1);
      Trial.due("peek(16)", t.units.peek(16), 6);
      Trial.due("peek(17)", t.units.peek(17), 6);
      Trial.due("each run begins anew", t.units.run(9), 1);
      Trial.due("peek(16)", t.units.peek(16), 6);
      Trial.due("result()", t.units.result(), 0);
      Trial.due("run(0)", t.units.run(0), 4);
      Trial.due("peek(16)", t.units.peek(16), 5);
      Trial.due("peek(17)", t.units.peek(17), 0);
      Trial.due("go", t.go("int main() { return 8; }", level, 9), 0);
      Trial.due("trap(0)", t.units.trap(0), 0);
      Trial.due("trap(1)", t.units.trap(1), 0);
      Trial.due("result()", t.units.result(), 8);
      Trial.due("strays()", t.units.strays(), 0);
    }
  }
}
