import java.util.ArrayList;
import java.util.List;

/** Terms 1 and 2 of the document: a text's tokens, and the tree of a unit. */
final class ModelText {
  private static final String WORDS = " int void static extern if else while do for break continue return ";
  private static final String[] SIGNS = ("<<= >>= += -= *= /= %= &= |= ^= || && == != <= >= << >> ++ --"
      + " ( ) { } [ ] , ; ? : = | ^ & < > + - * / % ! ~").split(" ");
  private static final String ASSIGNMENTS = " = += -= *= /= %= &= |= ^= <<= >>= ";
  /** The weakest first. */
  private static final String[] LEVELS = {" || ", " && ", " | ", " ^ ", " & ", " == != ", " < > <= >= ", " << >> ",
    " + - ", " * / % "};

  private final byte[] text;
  private int position = 0;
  private final List<Model.Token> tokens = new ArrayList<>();
  private int next = 0;

  /** What stands outside of functions: Variables and Functions. */
  final List<Object> items = new ArrayList<>();
  /** Whether an item was static, extern or neither. */
  final List<String> linkages = new ArrayList<>();

  private ModelText(byte[] text) {
    this.text = text;
  }

  static ModelText read(byte[] text) {
    ModelText t = new ModelText(text);
    t.scan();
    while (!t.is("end")) {
      t.item();
    }
    return t;
  }

  private int byteAt(int i) {
    return i < text.length ? text[i] & 255 : -1;
  }

  private static boolean in(String list, String word) {
    return list.contains(" " + word + " ");
  }

  private void scan() {
    String kind = "";
    while (!kind.equals("end") && !kind.equals("none")) {
      int wrong = blanks();
      Model.Token t = new Model.Token();
      t.place = wrong >= 0 ? wrong : position;
      t.line = 1;
      for (int i = 0; i < t.place; i++) {
        t.line += text[i] == 10 ? 1 : 0;
      }
      t.kind = "none";
      if (wrong < 0) {
        token(t);
      }
      kind = t.kind;
      tokens.add(t);
    }
  }

  private static boolean mayOccur(int c) {
    return c == 9 || c == 10 || c == 13 || c >= 32 && c <= 126;
  }

  /** Goes over blanks: the place of what is wrong in them, or -1. */
  private int blanks() {
    while (true) {
      int c = byteAt(position);
      int d = byteAt(position + 1);
      int end;
      if (c == 9 || c == 10 || c == 13 || c == 32) {
        position++;
        continue;
      } else if (c == '/' && d == '/') {
        end = position;
        while (end < text.length && text[end] != 10) {
          end++;
        }
      } else if (c == '/' && d == '*') {
        String all = new String(text, java.nio.charset.StandardCharsets.ISO_8859_1);
        end = all.indexOf("*/", position + 2);
        end = end < 0 ? -1 : end + 2;
      } else {
        return -1;
      }
      for (int i = position; i < (end < 0 ? text.length : end); i++) {
        if (!mayOccur(byteAt(i))) {
          return i;
        }
      }
      if (end < 0) {
        return position;
      }
      position = end;
    }
  }

  private void token(Model.Token t) {
    String rest = new String(text, position, Math.min(text.length - position, 1000),
        java.nio.charset.StandardCharsets.ISO_8859_1);
    if (rest.isEmpty()) {
      t.kind = "end";
    } else if (rest.matches("(?s)[A-Za-z_].*")) {
      name(t, rest.replaceFirst("(?s)[^A-Za-z_0-9].*", ""));
    } else if (rest.matches("(?s)0x[0-9a-fA-F].*")) {
      String digits = rest.substring(2).replaceFirst("(?s)[^0-9a-fA-F].*", "");
      if (digits.length() <= 8) {
        take(t, "number", 2 + digits.length());
        t.value = Integer.parseUnsignedInt(digits, 16);
      }
    } else if (rest.matches("(?s)[0-9].*")) {
      String digits = rest.replaceFirst("(?s)[^0-9].*", "");
      java.math.BigInteger value = new java.math.BigInteger(digits);
      if (value.bitLength() <= 31) {
        take(t, "number", digits.length());
        t.value = value.intValue();
      }
    } else if (rest.charAt(0) == '\'' || rest.charAt(0) == '"') {
      quoted(t, rest.charAt(0));
    } else {
      for (String sign : SIGNS) {
        if (rest.startsWith(sign)) {
          take(t, sign, sign.length());
          return;
        }
      }
    }
  }

  private void take(Model.Token t, String kind, int length) {
    t.kind = kind;
    position += length;
  }

  private void name(Model.Token t, String name) {
    if (name.length() <= 24) {
      take(t, in(WORDS, name) ? name : "name", name.length());
      t.name = name;
    }
  }

  private void quoted(Model.Token t, char quote) {
    List<Integer> codes = new ArrayList<>();
    int i = position + 1;
    while (byteAt(i) != quote) {
      int c = byteAt(i);
      if (c == '\\') {
        int k = "n0\\'\"".indexOf((char) byteAt(i + 1));
        if (k < 0 || byteAt(i + 1) < 0) {
          return;
        }
        codes.add(new int[] {10, 0, '\\', '\'', '"'}[k]);
        i += 2;
      } else if (c >= 32 && c <= 126) {
        codes.add(c);
        i++;
      } else {
        return;
      }
    }
    if (quote == '\'' ? codes.size() == 1 : codes.size() <= 200) {
      take(t, quote == '"' ? "string" : "number", i + 1 - position);
      t.codes = codes.stream().mapToInt(c -> c).toArray();
      t.value = quote == '\'' ? t.codes[0] : 0;
    }
  }

  private Model.Token now() {
    return tokens.get(next);
  }

  private boolean is(String kind) {
    return now().kind.equals(kind);
  }

  private boolean follows(String kind) {
    return next + 1 < tokens.size() && tokens.get(next + 1).kind.equals(kind);
  }

  private Model.Fault wrong() {
    return new Model.Fault(1, now().place);
  }

  private Model.Token need(String kind) {
    if (!is(kind)) {
      throw wrong();
    }
    return tokens.get(next++);
  }

  private boolean may(String kind) {
    boolean found = is(kind);
    next += found ? 1 : 0;
    return found;
  }

  private int stars() {
    int n = 0;
    while (is("*")) {
      if (n == 5) {
        throw wrong();
      }
      n++;
      next++;
    }
    return n;
  }

  private void item() {
    String linkage = is("static") || is("extern") ? need(now().kind).kind : "";
    if (may("void")) {
      function(need("name"), Model.VOID, linkage);
      return;
    }
    need("int");
    int stars = stars();
    Model.Token name = need("name");
    if (is("(")) {
      function(name, stars, linkage);
      return;
    }
    for (Model.Variable v : variables(name, stars)) {
      items.add(v);
      linkages.add(linkage);
    }
  }

  private void function(Model.Token name, int result, String linkage) {
    Model.Function f = new Model.Function();
    f.at = name;
    f.result = result;
    need("(");
    if (!is(")") && !may("void")) {
      do {
        if (f.types.size() == 8) {
          throw wrong();
        }
        need("int");
        int stars = stars();
        Model.Token at = is("name") ? need("name") : null;
        if (may("[")) {
          need("]");
          stars++;
        }
        f.types.add(stars);
        f.names.add(at != null ? at : now());
      } while (may(","));
    }
    need(")");
    if (!may(";")) {
      f.body = block(0);
    }
    items.add(f);
    linkages.add(linkage);
  }

  private List<Model.Variable> variables(Model.Token firstName, int firstStars) {
    List<Model.Variable> all = new ArrayList<>();
    Model.Token name = firstName;
    int stars = firstStars;
    while (true) {
      Model.Variable v = new Model.Variable();
      v.at = name;
      v.stars = stars;
      if (is("[")) {
        v.square = need("[");
        v.size = is("]") ? null : expression(1);
        need("]");
      }
      if (is("=")) {
        v.sign = need("=");
        if (may("{")) {
          v.list = new ArrayList<>();
          do {
            v.list.add(expression(1));
          } while (may(","));
          need("}");
        } else {
          v.expression = expression(1);
        }
      }
      all.add(v);
      if (!may(",")) {
        need(";");
        return all;
      }
      stars = stars();
      name = need("name");
    }
  }

  /** A block that stands so deep: its statements stand one deeper. */
  private Model.Node block(int depth) {
    Model.Node b = new Model.Node("block", need("{"));
    while (!may("}")) {
      b.kids.add(statement(depth + 1));
    }
    return b;
  }

  private Model.Node statement(int depth) {
    if (depth > 25) {
      throw wrong();
    }
    Model.Token t = now();
    switch (t.kind) {
      case "{":
        return block(depth);
      case ";":
        return new Model.Node("empty", need(";"));
      case "int":
        need("int");
        int stars = stars();
        Model.Node declaration = new Model.Node("int", t);
        declaration.variables = variables(need("name"), stars);
        return declaration;
      case "if":
        return conditional(depth);
      case "while":
        need("while");
        need("(");
        Model.Node test = expression(1);
        need(")");
        return new Model.Node("while", t, test, statement(depth + 1));
      case "do":
        need("do");
        Model.Node body = statement(depth + 1);
        Model.Token word = need("while");
        need("(");
        Model.Node again = new Model.Node("condition", word, expression(1));
        need(")");
        need(";");
        return new Model.Node("do", t, body, again);
      case "for":
        return counted(depth);
      case "break":
      case "continue":
        need(t.kind);
        need(";");
        return new Model.Node(t.kind, t);
      case "return":
        need("return");
        Model.Node r = new Model.Node("return", t);
        if (!is(";")) {
          r.kids.add(expression(1));
        }
        need(";");
        return r;
      default:
        Model.Node e = new Model.Node("expression", t, expression(1));
        need(";");
        return e;
    }
  }

  private Model.Node conditional(int depth) {
    Model.Node n = new Model.Node("if", need("if"));
    need("(");
    n.kids.add(expression(1));
    need(")");
    n.kids.add(statement(depth + 1));
    if (may("else")) {
      n.kids.add(statement(depth + 1));
    }
    return n;
  }

  /** Its kids: the three expressions, each of which may be null, and the body. */
  private Model.Node counted(int depth) {
    Model.Node n = new Model.Node("for", need("for"));
    need("(");
    n.kids.add(is(";") ? null : expression(1));
    need(";");
    n.kids.add(is(";") ? null : expression(1));
    need(";");
    n.kids.add(is(")") ? null : expression(1));
    need(")");
    n.kids.add(statement(depth + 1));
    return n;
  }

  /** Takes a sign behind which it is one deeper. */
  private Model.Token deeper(int depth) {
    if (depth >= 25) {
      throw wrong();
    }
    return tokens.get(next++);
  }

  private Model.Node expression(int depth) {
    Model.Node left = choice(depth);
    if (!in(ASSIGNMENTS, now().kind)) {
      return left;
    }
    Model.Token sign = deeper(depth);
    return new Model.Node(sign.kind, sign, left, expression(depth + 1));
  }

  private Model.Node choice(int depth) {
    Model.Node first = binary(0, depth);
    if (!is("?")) {
      return first;
    }
    Model.Token sign = deeper(depth);
    Model.Node second = expression(depth + 1);
    need(":");
    return new Model.Node("?", sign, first, second, choice(depth + 1));
  }

  private Model.Node binary(int level, int depth) {
    if (level == LEVELS.length) {
      return unary(depth);
    }
    Model.Node left = binary(level + 1, depth);
    while (in(LEVELS[level], now().kind)) {
      Model.Token sign = tokens.get(next++);
      left = new Model.Node("2" + sign.kind, sign, left, binary(level + 1, depth));
    }
    return left;
  }

  private Model.Node unary(int depth) {
    if (in(" - ! ~ * & ++ -- ", now().kind)) {
      Model.Token sign = deeper(depth);
      return new Model.Node("1" + sign.kind, sign, unary(depth + 1));
    }
    if (is("(") && follows("int")) {
      Model.Token sign = deeper(depth);
      need("int");
      int stars = stars();
      need(")");
      Model.Node n = new Model.Node("cast", sign, unary(depth + 1));
      n.stars = stars;
      return n;
    }
    return behind(depth);
  }

  private Model.Node behind(int depth) {
    Model.Node n = primary(depth);
    while (is("[") || is("++") || is("--")) {
      if (is("[")) {
        Model.Token sign = deeper(depth);
        n = new Model.Node("[", sign, n, expression(depth + 1));
        need("]");
      } else {
        n = new Model.Node("3" + now().kind, now(), n);
        next++;
      }
    }
    return n;
  }

  private Model.Node primary(int depth) {
    Model.Token t = now();
    if (is("number") || is("string")) {
      next++;
      return new Model.Node(t.kind, t);
    }
    if (may("name")) {
      if (!is("(")) {
        return new Model.Node("name", t);
      }
      Model.Node call = new Model.Node("call", t);
      deeper(depth);
      if (!may(")")) {
        do {
          call.kids.add(expression(depth + 1));
        } while (may(","));
        need(")");
      }
      return call;
    }
    if (!is("(")) {
      throw wrong();
    }
    Model.Node inside = new Model.Node("(", deeper(depth), expression(depth + 1));
    need(")");
    return inside;
  }
}
