/** Units by chance, spoken of to LinkedUnits and to Model: every answer is the same. */
public final class ModelTest {
  private static final String[] NAMES = {"main", "a", "b", "p", "f", "g", "put", "get", "x", "zz", "", "n0"};

  private final Chance chance;
  private final ChanceOfEdges edges;
  private final String about;
  private final LinkedUnits x = new LinkedUnits();
  private final Model m = new Model();

  private ModelTest(long seed) {
    chance = new Chance(seed);
    edges = new ChanceOfEdges(chance.random);
    about = "seed " + seed + ": ";
  }

  /** With two numbers: the first seed and the one behind the last, for longer trials. */
  public static void main(String[] args) {
    long first = args.length > 1 ? Long.parseLong(args[0]) : 0;
    long last = args.length > 1 ? Long.parseLong(args[1]) : 1000;
    for (long seed = first; seed < last; seed++) {
      new ModelTest(seed).compare();
      if (seed % 10 == 0) {
        new ModelTest(seed).calls();
      }
    }
    Trial.finish("ModelTest");
  }

  private int pick(int n) {
    return chance.random.nextInt(n);
  }

  private void tray(String text) {
    for (int i = 0; i < text.length(); i += 20) {
      int[] f = new int[5];
      for (int k = 0; k < 20; k++) {
        f[k / 4] = f[k / 4] << 8 | (i + k < text.length() ? text.charAt(i + k) & 255 : 0);
      }
      Trial.due(about + "feed", x.feed(f[0], f[1], f[2], f[3], f[4]), m.feed(f[0], f[1], f[2], f[3], f[4]));
    }
    Trial.due(about + "end", x.end(text.length()), m.end(text.length()));
  }

  private void compare() {
    int units = 1 + pick(4);
    boolean nearLimits = pick(3) == 0;
    boolean aboutSymbols = pick(5) == 0;
    for (int i = 0; i < units; i++) {
      String text = aboutSymbols ? edges.symbols(i == 0) : nearLimits ? edges.unit() : chance.unit(i, units);
      tray(text);
      int level = pick(4);
      Trial.due(about + "compile of " + text, x.compile(level), m.compile(level));
      Trial.due(about + "place of " + text, x.place(), m.place());
    }
    Trial.due(about + "objects", x.objects(), m.objects());
    for (int o = 0; o <= m.objects() + 1; o++) {
      symbols(o);
    }
    for (int round = 0; round < 3; round++) {
      link();
      run();
    }
  }

  private void symbols(int o) {
    Trial.due(about + "cells of " + o, x.count(o, 1), m.count(o, 1));
    Trial.due(about + "symbols of " + o, x.count(o, 0), m.count(o, 0));
    for (int s = -1; s <= m.count(o, 0); s++) {
      Trial.due(about + "symbol " + s + " of " + o, x.symbol(o, s), m.symbol(o, s));
      for (int i = -1; i < 6; i++) {
        Trial.due(about + "name " + s + " of " + o, x.name(o, s, i), m.name(o, s, i));
      }
    }
  }

  private void link() {
    int n = m.objects();
    int first = pick(n + 1);
    for (int i = 0; i <= n; i++) {
      int o = pick(3) == 0 ? first + i : (first + i) % (n + 1);
      if (pick(8) != 0) {
        Trial.due(about + "pick " + o, x.pick(o), m.pick(o));
      }
    }
    Trial.due(about + "link", x.link(), m.link());
    for (int what = -1; what <= 2; what++) {
      Trial.due(about + "fault " + what, x.fault(what), m.fault(what));
    }
    for (String name : NAMES) {
      tray(name);
      Trial.due(about + "cell of " + name, x.cell(), m.cell());
    }
  }

  private void run() {
    for (int i = pick(6); i > 0; i--) {
      int b = pick(300);
      Trial.due(about + "input", x.input(b), m.input(b));
    }
    int fuel = pick(3) == 0 ? pick(5) - 1 : pick(4) == 0 ? pick(20002) : pick(400);
    Trial.due(about + "run with " + fuel, x.run(fuel), m.run(fuel));
    Trial.due(about + "result", x.result(), m.result());
    Trial.due(about + "turns", x.turns(), m.turns());
    for (int what = -1; what <= 2; what++) {
      Trial.due(about + "trap " + what, x.trap(what), m.trap(what));
    }
    Trial.due(about + "written", x.written(), m.written());
    for (int i = -1; i <= m.written(); i++) {
      Trial.due(about + "out " + i, x.out(i), m.out(i));
    }
    int differing = -1;
    for (int i = 32768; i >= -1; i--) {
      differing = x.peek(i) != m.peek(i) ? i : differing;
    }
    Trial.due(about + "the first cell that differs", differing, -1);
    Trial.due(about + "strays", x.strays(), 0);
  }

  private int number() {
    return pick(5) == 0 ? chance.random.nextInt() : pick(8) - 2;
  }

  /** Calls in any order, some of them with numbers that are none. */
  private void calls() {
    for (int i = 0; i < 500; i++) {
      int a = number();
      int b = number();
      switch (pick(20)) {
        case 0:
          String text = chance.unit(0, 1);
          tray(text);
          Trial.due(about + "compile of " + text, x.compile(i & 3), m.compile(i & 3));
          break;
        case 1:
          Trial.due(about + "compile(" + a + ")", x.compile(a), m.compile(a));
          break;
        case 2:
          Trial.due(about + "feed(" + a + ", " + b + ", 1, 2, 3)", x.feed(a, b, 1, 2, 3), m.feed(a, b, 1, 2, 3));
          break;
        case 3:
          Trial.due(about + "end(" + a + ")", x.end(a), m.end(a));
          break;
        case 4:
          Trial.due(about + "count(" + a + ", " + b + ")", x.count(a, b), m.count(a, b));
          break;
        case 5:
          Trial.due(about + "name(" + a + ", " + b + ", 0)", x.name(a, b, 0), m.name(a, b, 0));
          Trial.due(about + "name(1, 0, " + a + ")", x.name(1, 0, a), m.name(1, 0, a));
          break;
        case 6:
          Trial.due(about + "symbol(" + a + ", " + b + ")", x.symbol(a, b), m.symbol(a, b));
          break;
        case 7:
        case 8:
          Trial.due(about + "pick(" + a + ")", x.pick(a), m.pick(a));
          break;
        case 9:
          Trial.due(about + "link()", x.link(), m.link());
          break;
        case 10:
          tray(NAMES[pick(NAMES.length)]);
          Trial.due(about + "cell()", x.cell(), m.cell());
          break;
        case 11:
          Trial.due(about + "input(" + a + ")", x.input(a), m.input(a));
          break;
        case 12:
          Trial.due(about + "run(" + a + ")", x.run(a), m.run(a));
          break;
        case 13:
          Trial.due(about + "run(" + i + ")", x.run(i), m.run(i));
          break;
        default:
          break;
      }
      told(a);
    }
  }

  /** What is told of the latest compile(), link() and run(). */
  private void told(int a) {
    Trial.due(about + "place", x.place(), m.place());
    Trial.due(about + "objects", x.objects(), m.objects());
    Trial.due(about + "fault(" + a + ")", x.fault(a), m.fault(a));
    Trial.due(about + "result", x.result(), m.result());
    Trial.due(about + "turns", x.turns(), m.turns());
    Trial.due(about + "trap(" + a + ")", x.trap(a), m.trap(a));
    Trial.due(about + "written", x.written(), m.written());
    Trial.due(about + "out(" + a + ")", x.out(a), m.out(a));
    int i = pick(3) == 0 ? a : 16 + pick(40);
    Trial.due(about + "peek(" + i + ")", x.peek(i), m.peek(i));
  }
}
