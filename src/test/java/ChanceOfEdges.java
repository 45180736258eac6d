import java.util.Random;

/** Makes units by chance that come near the document's limits, on both sides of them. */
final class ChanceOfEdges {
  private static final String[] WRAPS = {"(@)", "- @", "!@", "~ @", "(int) @", "(int*)@", "*(int*)@", "a[@]", "x = @",
    "x += @", "1 ? @ : 2", "x ? 1 : @", "f(@)", "g(1, @, 2)", "(x) = @", "*&@", "++ @", "& @", "-- @", "p = @",
    "v(@)", "h(@)"};
  private static final String[] CHAINS = {"@ + 1", "@ - 1", "1 + (@)", "@ * 1", "-(@)", "@ << 1", "@ | 1", "@ && 1",
    "(int)(@)", "f(@)", "g(1, @, 1)", "(@) ? 1 : 2", "1 ? @ : 2", "x = @", "(@)", "a[@]", "@ == 1", "!(@)", "~(@)",
    "@ < 1", "(@)[a]", "(@)++", "&(@)", "*(@)", "h()", "@ % 3"};
  private static final String[] NESTS = {"{@}", "{;@;}", "if (1) @", "if (0) ; else @", "while (x) @", "for (;;) @",
    "do @ while (0);", "{ int x; @ }", "for (x = 0; x < 2; x++) @"};

  private final Random random;

  ChanceOfEdges(Random random) {
    this.random = random;
  }

  private int pick(int n) {
    return random.nextInt(n);
  }

  private String one(String... of) {
    return of[pick(of.length)];
  }

  /** A number near another one. */
  private int near(int n) {
    return pick(4) == 0 ? n + pick(9) - 4 : n + pick(3) - 1;
  }

  private int one(int... of) {
    return of[pick(of.length)];
  }

  private static String put(String pattern, String inner) {
    return pattern.replace("@", inner);
  }

  private static final String HEAD = "void put(int); void print(int); int x, a[3], *p; int f(int n) { return n; }"
      + " int g(int a, int b, int c) { return b; } void v(int n) { } int h() { return 1; }\n";

  String unit() {
    switch (pick(10)) {
      case 0:
        return HEAD + placed(nested(near(25)));
      case 1:
        return HEAD + placed(mixed(near(25)));
      case 2:
        return HEAD + placed(chained(near(60)));
      case 3:
        return HEAD + "int main() { " + statements(near(24)) + " return x; }";
      case 4:
        return names();
      case 5:
        return data();
      case 6:
        return tokens();
      case 7:
        return bodiless();
      case 8:
        return HEAD + "int main() { int i; for (i = 0; i < " + near(one(4096, 4090, 2000)) + "; i++)\n"
            + one("put(i);", "print(i & 7);", "print(-i % 9);") + "\nprint(" + one("-1", "123456", "0", "7") + ");\nput(1); }";
      default:
        return frames();
    }
  }

  /** One wrap again and again, with another one now and then. */
  private String nested(int n) {
    String wrap = one(WRAPS);
    String e = one("1", "x", "a", "p", "h()", "0", "v(1)", "\"s\"");
    int left = n - 1;
    for (; left > 0; left--) {
      e = put(pick(12) == 0 ? one(WRAPS) : wrap, e);
    }
    return e;
  }

  private String mixed(int n) {
    String e = one("1", "x", "h()");
    for (int i = 1; i < n; i++) {
      e = put(WRAPS[pick(14)], e);
    }
    return e;
  }

  private String chained(int n) {
    String chain = one(CHAINS);
    String e = one("1", "x", "1", "f(x)", "a[0]", "p");
    int deep = 1;
    for (int i = 1; i < n; i++) {
      String c = pick(15) == 0 && deep < 20 ? one(CHAINS) : chain;
      boolean deeper = c.indexOf('(') >= 0 || c.indexOf('=') >= 0 || c.indexOf('?') >= 0;
      c = deeper && deep >= 20 ? "@ + 1" : c;
      deep += deeper ? 1 : 0;
      e = put(c, e);
    }
    return e;
  }

  private String placed(String e) {
    return put(one("int y = @; int main() { return y; }", "int y[@]; int main() { return 0; }",
        "int y[2] = { 1, @ }; int main() { return y[1]; }", "int main() { int y = @; return y; }",
        "int main() { int y[@]; return 0; }", "int main() { int y[3] = { @, 2 }; return y[0]; }",
        "int main() { return @; }", "int main() { @; return x; }", "int main() { if (@) return 1; return 2; }",
        "int main() { while (@) return 1; return 2; }", "int main() { do x++; while (@); return x; }",
        "int main() { for (@; x < 1; x++) ; return x; }", "int main() { for (; @; ) return 4; return 3; }",
        "int main() { for (; x < 1; @) x++; return x; }", "int *q = @; int main() { return 0; }",
        "int *q[] = { @ }; int main() { return 0; }"), e);
  }

  private String statements(int n) {
    String nest = one(NESTS);
    String s = one("x++;", ";", "return 3;", "break;", "{ }", "int z;", "if (x) ;", "do ; while (0);", "1 1");
    for (int i = 1; i < n; i++) {
      s = put(pick(8) == 0 ? one(NESTS) : nest, s);
    }
    return s;
  }

  private String names() {
    StringBuilder all = new StringBuilder();
    int outers = pick(2) == 0 ? near(99) : pick(5);
    for (int i = 0; i < outers; i++) {
      all.append(pick(20) == 0 ? "extern int n0; " : "");
      all.append(pick(4) == 0 ? put("void n@();", "" + i) : pick(9) == 0 ? put("extern int n@;", "" + i)
          : put("int n@;", "" + i));
    }
    int parameters = pick(9);
    all.append("\nint main(");
    for (int i = 0; i < parameters; i++) {
      all.append(i > 0 ? ", " : "").append("int ").append(one("", "*")).append("m").append(i);
    }
    all.append(") { ");
    int locals = pick(2) == 0 ? near(100) - parameters : pick(5);
    int open = 0;
    for (int i = 0; i < locals; i++) {
      boolean opens = open < 20 && pick(7) == 0;
      boolean closes = !opens && open > 0 && pick(9) == 0;
      all.append(opens ? "{ " : "").append("int k").append(i).append(pick(6) == 0 ? "[1]; " : "; ")
          .append(closes ? "} " : "");
      open += opens ? 1 : closes ? -1 : 0;
    }
    all.append(pick(30) == 0 ? "" : "} ".repeat(open));
    return all.append(one("int k0;", "int n0;", "int m0;", "int z[0];", "int z[4001];", "")).append(" return 7; }")
        .append(one("", " int n0;", " int z;", " int n1();", " static void n2();", " int *n3;")).toString();
  }

  /** Static functions that are called, some of which never get a body. */
  private String bodiless() {
    StringBuilder all = new StringBuilder("static int s0(); static int s1(); static int s2(); extern int s3();\n");
    all.append("int main() { ");
    for (int i = pick(5); i > 0; i--) {
      all.append("s").append(pick(4)).append("(); ");
    }
    all.append("}\n");
    for (int i = 0; i < 4; i++) {
      String call = "{ return s" + pick(4) + "(); }";
      all.append(pick(2) == 0 ? "" : (i < 3 ? "static " : "") + "int s" + i + "() " + call + "\n");
    }
    return all.append(one("", "int z = zz;", "int z[0];")).toString();
  }

  private String data() {
    StringBuilder all = new StringBuilder();
    int left = pick(2) == 0 ? near(16000) : near(4000);
    while (left > 0) {
      int n = Math.min(left, pick(6) == 0 ? 1 + pick(200) : pick(5) == 0 ? near(4000) : 4000);
      int kind = pick(5);
      if (kind == 0 && n <= 201) {
        all.append("int main() { \"").append("s".repeat(n - 1)).append("\"; }");
      } else if (n == 1) {
        all.append(one("int q", "static int q", "int *q")).append(left).append(";");
      } else if (kind == 1 && n < 201) {
        all.append("int s").append(left).append("[] = \"").append("\\n".repeat(n - 1)).append("\";");
      } else {
        all.append(one("int", "static int")).append(" b").append(left).append("[").append(n).append("];");
      }
      left -= n;
    }
    return all.append(one("", "extern int y[4000];", "int *z = \"\";", "int z;", "int z[] = {1,2,3};", "int z[0];"))
        .append(one("int main() { return 5; }", "")).toString();
  }

  private String tokens() {
    String name = "abcdefghijklmnopqrstuvwxyz0123456789".substring(pick(3), near(24));
    String text = "s".repeat(Math.max(0, near(200) - pick(2))) + one("", "\\n", "\\\\", "\\q", "\n", "'", "\\'");
    String number = one("2147483647", "2147483648", "0", "0x7fffffff", "0xfffffff", "0xfFFFfFFF", "0x0fffffff7", "0x",
        "0xg", "07", "00000000000000000001", "4294967297", "'a'", "'\\n'", "''", "'ab'", "'\\x'", "'\"'", "'", "1a",
        "0X1", "0x1G", "'\\''", "'\\\\'");
    String comment = one("/**/", "/***/", "/*/", "/*/*/", "// \n", "//", "/* \n*/", "/* \u0001 */", "// \u007f\n",
        "/* \u0080", "\r", "\f", "/ /", "");
    return put(one("int @ = #; $ int z;", "int z = # $; int @;", "int *@ = ^; $", "int z = #;$ int y[] = ^; int @;",
        "$int z; int f() { int @ = # $; return ^[0]; }"), name).replace("#", number).replace("$", comment)
        .replace("^", "\"" + text + "\"");
  }

  /** A few declarations of a few names, for units that are linked: most go together, some do not. */
  String symbols(boolean main) {
    StringBuilder all = new StringBuilder(main ? one("int main() { return 1; }", "int main(void) { return 2; }") : "");
    for (int i = 1 + pick(4); i > 0; i--) {
      String name = one("a", "b", "f", "g", "put", "x");
      boolean usual = pick(5) != 0;
      boolean function = usual ? "f g put".contains(name) : pick(2) == 0;
      boolean defines = pick(4) == 0;
      if (!function) {
        String size = pick(3) == 0 ? "[]" : "[" + (usual ? 2 : pick(3) + 1) + "]";
        String type = usual ? "int " : one("int *", "static int ", "int **");
        size = !usual && pick(2) == 0 ? "" : name.equals("x") ? "" : defines ? "[2]" : size;
        all.append(defines || type.startsWith("s") ? "" : "extern ").append(type).append(name).append(size).append("; ");
      } else {
        String head = usual ? "int @(int)" : one("void @(int)", "int *@(int)", "int @(int*)", "int @()", "static int @(int)");
        head = usual && name.equals("put") ? "void @(int)" : head;
        all.append(put(head, name)).append("; ");
        if (defines) {
          all.append(put(head, name).replace("int)", "int n)").replace("*)", "*n)")).append(" { return");
          all.append(head.startsWith("void") ? "; } " : " 0; } ");
        }
      }
      if (pick(3) == 0) {
        all.append(put(function ? "int u@() { @(1); return 2; } " : "int u@() { @; return 3; } ", name)
            .replace("int u", "static int u" + i));
      }
    }
    return all.toString();
  }

  private String frames() {
    int cells = near(pick(2) == 0 ? 8160 : 8192 / (1 + pick(40)) - 32);
    StringBuilder all = new StringBuilder("void print(int); int main(); int f(int n, int m) { ");
    int kept = 0;
    if (pick(2) == 0) {
      all.append("&m; ");
      kept++;
    }
    for (int left = cells - kept; left > 0; left -= 4000) {
      all.append("int a").append(left).append("[").append(Math.min(left, 4000)).append("]; ");
    }
    all.append(one("n = n;", "&n;", "{ int z; &z; }", "print(n);"));
    all.append("\n return n ? f(n - 1, m + 1)").append(one("", " + m")).append(" : m; }\n");
    return all.append("int main() { ").append(one("", "int q; &q; ", "int q[8]; ")).append("return f(")
        .append(pick(3) == 0 ? near(256) : pick(6)).append(",\n 0); }").toString();
  }
}
