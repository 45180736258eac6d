import java.util.Random;

/**
 * Many texts made by chance (always the same ones): at all levels of optimising every answer is the
 * same, nothing is ever thrown, and no register strays.
 */
public final class LevelTest {
  private static final String[] PIECES = ("( ) { } [ ] , ; ? : = += -= *= /= %= &= |= ^= <<= >>= || && | ^ & == !="
      + " < > <= >= << >> + - * / % ! ~ ++ -- int void static extern if else while do for break continue"
      + " return 0 1 2 7 100 a b c p f g main 'x' \"ab\" 0x10 4001 /* */ // \" ' \\ @").split(" ");

  private final Random random;
  private final StringBuilder text = new StringBuilder();

  private LevelTest(long seed) {
    random = new Random(seed);
  }

  public static void main(String[] args) {
    for (int seed = 0; seed < 1500; seed++) {
      same(new LevelTest(seed).program(), seed);
    }
    for (int seed = 0; seed < 1500; seed++) {
      same(new LevelTest(seed).soup(), seed);
    }
    for (int seed = 0; seed < 60; seed++) {
      new LevelTest(seed).calls();
    }
    Trial.finish("LevelTest");
  }

  /** Compiles, links and runs one text at every level, and compares all that is told. */
  private static void same(String text, int seed) {
    String first = "";
    for (int level = 0; level <= 3; level++) {
      Trial t = new Trial();
      t.give("a" + (char) seed);
      StringBuilder told = new StringBuilder();
      told.append(t.go(text, level, seed % 400)).append(' ').append(t.units.place()).append(' ');
      told.append(t.units.count(1, 0)).append(' ').append(t.units.count(1, 1)).append(' ');
      told.append(t.units.result()).append(' ').append(t.units.turns()).append(' ');
      told.append(t.units.trap(0)).append(' ').append(t.units.trap(1)).append(' ');
      told.append(t.printed()).append(' ').append(t.units.strays());
      for (int i = 0; i < 32768; i++) {
        if (t.units.peek(i) != 0) {
          told.append(' ').append(i).append(':').append(t.units.peek(i));
        }
      }
      if (level == 0) {
        first = told.toString();
      }
      Trial.due("level " + level + " of " + text, told.toString(), first);
      Trial.due("strays() of " + text, t.units.strays(), 0);
    }
  }

  private String one(String... of) {
    return of[random.nextInt(of.length)];
  }

  /** Tokens in any order, or bytes. */
  private String soup() {
    int n = random.nextInt(60);
    for (int i = 0; i < n; i++) {
      if (random.nextInt(40) == 0) {
        text.append((char) random.nextInt(256));
      } else {
        text.append(one(PIECES)).append(random.nextInt(4) == 0 ? "" : " ");
      }
    }
    return text.toString();
  }

  private String program() {
    text.append("int get(void); void put(int); void print(int); void stop(int);\n");
    text.append("int a = 3, b[4] = { 1, -2, 3 }, *p = b + 1; static int c; int f(int x, int *y);\n");
    text.append("int f(int x, int *y) {\n");
    statements(3);
    text.append("return ").append(value(3)).append("; }\nint main() { int x = 2; int u[3]; int *y = &a;\n");
    statements(5);
    text.append("return ").append(value(3)).append("; }");
    return text.toString();
  }

  private void statements(int deep) {
    int n = 1 + random.nextInt(4);
    for (int i = 0; i < n; i++) {
      statement(deep);
      text.append('\n');
    }
  }

  private void statement(int deep) {
    int k = random.nextInt(deep > 0 ? 10 : 5);
    if (k < 3) {
      text.append(place(2)).append(one(" = ", " += ", " -= ", " *= ", " /= ", " %= ", " <<= ", " ^= "))
          .append(value(3)).append(";");
    } else if (k == 3) {
      text.append(one("print(", "put(")).append(value(2)).append(");");
    } else if (k == 4) {
      text.append(one("a++;", "--x;", "p = &b[1];", "y = b;", "*p++;", "x = get();", ";", "y = &x;"));
    } else if (k < 7) {
      text.append("if (").append(value(3)).append(") { ");
      statements(deep - 1);
      text.append("} else ");
      statement(deep - 1);
    } else if (k == 7) {
      text.append("for (a = 0; a < ").append(random.nextInt(5)).append("; a++) { ");
      statements(deep - 1);
      text.append(one("", "if (x) break; ", "if (c) continue; ")).append("}");
    } else if (k == 8) {
      text.append("while (").append(value(2)).append(") { ");
      statements(deep - 1);
      text.append("}");
    } else {
      text.append("do { int z = ").append(value(2)).append("; c += z; ");
      statements(deep - 1);
      text.append("} while (").append(value(2)).append(");");
    }
  }

  private String place(int deep) {
    switch (random.nextInt(deep > 0 ? 7 : 4)) {
      case 0:
        return "a";
      case 1:
        return "x";
      case 2:
        return "c";
      case 3:
        return "*p";
      case 4:
        return "b[" + value(deep - 1) + "]";
      case 5:
        return "*y";
      default:
        return "y[" + value(deep - 1) + " & 3]";
    }
  }

  private String value(int deep) {
    switch (random.nextInt(deep > 0 ? 10 : 3)) {
      case 0:
        return one("0", "1", "2", "7", "-1", "100", "0x7fffffff", "'c'", "*\"st\"");
      case 1:
      case 2:
        return place(deep - 1);
      case 3:
      case 4:
      case 5:
        return "(" + value(deep - 1) + one(" + ", " - ", " * ", " / ", " % ", " & ", " | ", " ^ ", " << ", " >> ",
            " < ", " > ", " <= ", " >= ", " == ", " != ", " && ", " || ") + value(deep - 1) + ")";
      case 6:
        return one("-", "~", "!", "- -") + "(" + value(deep - 1) + ")";
      case 7:
        return "(" + value(deep - 1) + " ? " + value(deep - 1) + " : " + value(deep - 1) + ")";
      case 8:
        return one("f(1, p)", "f(a, &c)", "x++", "++a", "(c = 5)", "(p < y)", "(p - b)", "(p == 0)", "f(x, 0)");
      default:
        return "(" + place(deep - 1) + one(" = ", " += ", " |= ") + value(deep - 1) + ")";
    }
  }

  private int number() {
    switch (random.nextInt(4)) {
      case 0:
        return random.nextInt();
      case 1:
        return one("a", "b").equals("a") ? Integer.MIN_VALUE : Integer.MAX_VALUE;
      default:
        return random.nextInt(6) - 1;
    }
  }

  /** Calls in any order with any arguments: they must only never throw. */
  private void calls() {
    Trial t = new Trial();
    LinkedUnits x = t.units;
    for (int i = 0; i < 1500; i++) {
      switch (random.nextInt(18)) {
        case 0:
          x.feed(number(), number(), number(), number(), number());
          break;
        case 1:
          x.end(number());
          break;
        case 2:
          text.setLength(0);
          t.compile(random.nextBoolean() ? program() : soup(), number() & 3);
          break;
        case 3:
          x.compile(number());
          break;
        case 4:
          x.count(number(), number());
          break;
        case 5:
          x.name(number(), number(), number());
          break;
        case 6:
          x.symbol(number(), number());
          break;
        case 7:
          x.pick(random.nextInt(100));
          break;
        case 8:
          x.pick(number());
          break;
        case 9:
          x.link();
          break;
        case 10:
          x.fault(number());
          break;
        case 11:
          t.cell(one("main", "a", "b", "put", "f", "zz"));
          break;
        case 12:
          x.input(number());
          break;
        case 13:
          x.run(random.nextInt(200));
          break;
        case 14:
          x.run(number());
          break;
        case 15:
          x.out(number());
          break;
        case 16:
          x.peek(number());
          break;
        default:
          x.trap(number());
          break;
      }
    }
    Trial.due("strays()", x.strays(), 0);
    Trial.due("objects() is right", x.objects() >= 0 && x.objects() <= 100 ? 1 : 0, 1);
  }
}
