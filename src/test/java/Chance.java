import java.util.ArrayList;
import java.util.List;
import java.util.Random;

/** Makes units by chance, always the same ones for a seed: most mean something, some are spoilt. */
final class Chance {
  private static final String[] POOL = ("a b c d e p q r s f g h k x y get put").split(" ");
  private static final String[] ANY = ("( ) { } [ ] , ; ? : = += -= *= /= %= &= |= ^= <<= >>= || && | ^ & == != < >"
      + " <= >= << >> + - * / % ! ~ ++ -- int void static extern if else while do for break continue return 0 1 2 7"
      + " 100 60 4000 4001 0x10 'x' \"ab\" \"\" a b c d p q f g main put").split(" ");
  private static final String[] INTS = {"*", "/", "%", "&", "|", "^", "<<", ">>", "+", "-"};
  private static final String[] SIGNS = {"=", "+=", "-=", "*=", "/=", "%=", "&=", "|=", "^=", "<<=", ">>="};
  private static final String[] COMPARES = {"<", ">", "<=", ">=", "==", "!="};

  /** What a name means where the text is. */
  private static final class Known {
    final String name;
    final int type;
    /** An array's size, or 0. */
    final int size;
    final int[] parameters;
    /** Functions call mostly those of a lower one, so that runs come to an end. */
    int rank = 0;

    Known(String name, int type, int size, int[] parameters) {
      this.name = name;
      this.type = type;
      this.size = size;
      this.parameters = parameters;
    }

    boolean isFunction() {
      return parameters != null;
    }
  }

  final Random random;
  private final List<String> tokens = new ArrayList<>();
  private final List<Known> known = new ArrayList<>();
  /** What all units of a seed speak of. */
  private final List<Known> shared = new ArrayList<>();
  private final int wrongOne;
  private int result;
  private int rank;
  private boolean inLoop;
  /** Where the names of the innermost scope begin. */
  private int scope;

  Chance(long seed) {
    random = new Random(seed);
    wrongOne = pick(3) == 0 ? 60 : pick(3) == 0 ? 400 : 1 << 30;
    int n = 2 + pick(8);
    for (int i = 0; i < n; i++) {
      boolean function = pick(2) == 0;
      int type = pick(4) == 0 ? pick(3) : pick(2);
      Known k = function ? new Known(POOL[i], pick(4) == 0 ? Model.VOID : type, 0, someTypes())
          : new Known(POOL[i], type, pick(2) == 0 ? 1 + pick(6) : 0, null);
      k.rank = i + 1;
      shared.add(k);
    }
  }

  private int pick(int n) {
    return random.nextInt(n);
  }

  private boolean wrong() {
    return pick(wrongOne) == 0;
  }

  private String one(String... of) {
    return of[pick(of.length)];
  }

  private int[] someTypes() {
    int[] types = new int[pick(5) == 0 ? pick(9) : pick(4)];
    for (int i = 0; i < types.length; i++) {
      types[i] = pick(4) == 0 ? pick(3) : pick(2);
    }
    return types;
  }

  private void add(String words) {
    for (String w : words.split(" ")) {
      tokens.add(w);
    }
  }

  /** One of some units that go together. */
  String unit(int number, int of) {
    tokens.clear();
    known.clear();
    scope = 0;
    if (pick(12) != 0) {
      library();
    }
    int n = shared.size();
    for (int i = 0; i < n; i++) {
      Known k = shared.get(i);
      int owner = (i * 7 + 3) % of;
      if (owner == number || wrong()) {
        define(k);
      } else if (pick(4) != 0) {
        declare(wrong() ? shared.get(pick(n)) : k);
      }
      if (pick(8) == 0) {
        define(new Known(fresh("t" + number, "u" + number, "x"), pick(2), pick(2) * 3, null));
      }
    }
    if (number == 0 || wrong()) {
      Known main = new Known("main", 0, 0, new int[0]);
      main.rank = 100;
      define(main);
    }
    spoil();
    return joined();
  }

  /** A name that does not stand in the scope yet, mostly. */
  private String fresh(String... names) {
    String name = one(names);
    for (int i = 0; i < 20 && !wrong(); i++) {
      Known k = meaning(name);
      if (k == null || known.lastIndexOf(k) < scope) {
        return name;
      }
      name = pick(2) == 0 ? one(names) : one("i", "j", "l", "m", "o", "v" + pick(50));
    }
    return name;
  }

  private void library() {
    String[] heads = {"int get ( void ) ;", "void put ( int ) ;", "void print ( int ) ;", "void stop ( int ) ;"};
    String[] names = {"get", "put", "print", "stop"};
    for (int i = 0; i < 4; i++) {
      add(wrong() ? heads[pick(4)] : heads[i]);
      known.add(new Known(names[i], i == 0 ? 0 : Model.VOID, 0, i == 0 ? new int[0] : new int[1]));
    }
  }

  private void stars(int n) {
    for (int i = 0; i < n; i++) {
      tokens.add("*");
    }
  }

  private void head(Known k, boolean named) {
    tokens.add(k.type == Model.VOID ? "void" : "int");
    stars(k.type);
    tokens.add(k.name);
    tokens.add("(");
    if (k.parameters.length == 0 && pick(2) == 0) {
      tokens.add("void");
    }
    for (int i = 0; i < k.parameters.length; i++) {
      tokens.add("int");
      boolean square = k.parameters[i] > 0 && pick(2) == 0;
      stars(k.parameters[i] - (square ? 1 : 0));
      if (named || pick(2) == 0) {
        tokens.add(wrong() ? "n0" : "n" + i);
      }
      if (square) {
        add("[ ]");
      }
      if (i + 1 < k.parameters.length) {
        tokens.add(",");
      }
    }
    tokens.add(")");
  }

  private void declare(Known k) {
    if (k.isFunction()) {
      if (pick(4) == 0) {
        tokens.add("extern");
      }
      head(k, pick(2) == 0);
      tokens.add(";");
    } else {
      add("extern int");
      stars(wrong() ? 1 : k.type);
      tokens.add(k.name);
      if (k.size > 0) {
        add(pick(2) == 0 ? "[ ]" : "[ " + (wrong() ? 2 : k.size) + " ]");
      }
      tokens.add(";");
    }
    known.add(k);
  }

  private void define(Known k) {
    if (pick(5) == 0) {
      declare(k);
    } else if (pick(6) == 0 && k.rank < 100) {
      tokens.add("static");
    }
    if (!k.isFunction()) {
      tokens.add("int");
      variable(k, false);
      while (pick(3) == 0) {
        tokens.add(",");
        variable(new Known(fresh("v" + pick(100), "w" + pick(100)), pick(3), pick(2) * pick(5), null), false);
      }
      tokens.add(";");
      return;
    }
    head(k, true);
    known.add(k);
    if (pick(8) == 0 && !tokens.contains("static")) {
      tokens.add(";");
      if (wrong()) {
        return;
      }
      head(k, true);
    }
    body(k);
  }

  private void body(Known k) {
    int outer = known.size();
    for (int i = 0; i < k.parameters.length; i++) {
      known.add(new Known("n" + i, k.parameters[i], 0, null));
    }
    result = k.type;
    rank = k.rank;
    inLoop = false;
    scope = outer;
    tokens.add("{");
    statements(3);
    statements(2);
    if (result != Model.VOID && pick(4) != 0) {
      tokens.add("return");
      fitting(result, 3);
      tokens.add(";");
    }
    tokens.add("}");
    forget(outer);
    scope = 0;
  }

  private void forget(int size) {
    while (known.size() > size) {
      known.remove(known.size() - 1);
    }
  }

  private void variable(Known k, boolean local) {
    stars(k.type);
    tokens.add(k.name);
    boolean given = pick(2) == 0;
    boolean told = !given || pick(3) != 0;
    if (k.size > 0) {
      tokens.add("[");
      if (told) {
        size(k.size);
      }
      tokens.add("]");
    }
    known.add(k);
    if (given) {
      tokens.add("=");
      if (k.size > 0 && k.type == 0 && pick(4) == 0) {
        tokens.add("\"" + "xyz\\n\\0".substring(0, Math.min(k.size, 3)) + "\"");
      } else if (k.size > 0) {
        tokens.add("{");
        int n = told ? 1 + pick(wrong() ? k.size + 1 : k.size) : k.size;
        for (int i = 0; i < n; i++) {
          initial(k.type, local);
          tokens.add(i + 1 < n ? "," : "}");
        }
      } else {
        initial(k.type, local);
      }
    }
  }

  private void size(int n) {
    switch (wrong() ? 3 : pick(3)) {
      case 0:
        add("( " + (n - 1) + " + 1 )");
        break;
      case 3:
        add(one("0", "- 1", "4001", "1 / 0", "a", "( int ) 1", "1 && 1", "zz", "\"a\""));
        break;
      default:
        tokens.add("" + n);
        break;
    }
  }

  private void initial(int type, boolean local) {
    if (local || wrong()) {
      fitting(type, 2);
    } else if (type == 0) {
      constant(2);
    } else {
      pointer(type, 2);
    }
  }

  private void number() {
    tokens.add(one("0", "1", "2", "3", "7", "31", "100", "2147483647", "0x80000000", "0xfFfFfFfF", "'a'", "'\\n'",
        "'\\0'", "0x1F", "16", "32767", "32768", "40000"));
  }

  private void constant(int deep) {
    if (deep == 0 || pick(3) == 0) {
      number();
    } else if (pick(3) == 0) {
      tokens.add(one("-", "~", "!"));
      constant(deep - 1);
    } else {
      tokens.add("(");
      constant(deep - 1);
      tokens.add(pick(3) == 0 ? one(COMPARES) : one(INTS));
      constant(deep - 1);
      tokens.add(")");
    }
  }

  /** A pointer as it may stand in an initial outside of functions. */
  private void pointer(int type, int deep) {
    Known k = some(type, false, true);
    Known v = some(type - 1, true, false);
    boolean none = k == null && v == null && type != 1;
    if (none || deep == 2 && pick(6) == 0) {
      tokens.add("0");
    } else if (deep > 0 && pick(3) == 0) {
      if (pick(3) == 0) {
        constant(1);
        tokens.add("+");
        tokens.add("(");
        pointer(type, deep - 1);
        tokens.add(")");
      } else {
        pointer(type, deep - 1);
        tokens.add(one("+", "-"));
        constant(1);
      }
    } else if (k != null && pick(2) == 0) {
      tokens.add(k.name);
    } else if (v != null && (type != 1 || pick(2) == 0)) {
      add(pick(4) == 0 ? "& ( " + v.name + " )" : "& " + v.name);
    } else if (type == 1) {
      string();
    } else {
      tokens.add(k == null ? "0" : k.name);
    }
  }

  private void string() {
    tokens.add(one("\"ab\"", "\"\"", "\"x\\n\"", "\"\\0y\"", "\"'\\\"\\\\\"", "\"a//b/*\""));
  }

  /** A variable of a type that is in sight (its newest meaning), or null: a place, or an array. */
  private Known some(int type, boolean place, boolean array) {
    int start = known.isEmpty() ? 0 : pick(known.size());
    for (int i = 0; i < known.size(); i++) {
      Known k = known.get((start + i) % known.size());
      int itsType = k.size > 0 ? k.type + 1 : k.type;
      if (!k.isFunction() && itsType == type && (k.size > 0 ? array : place) && (wrong() || meaning(k.name) == k)) {
        return k;
      }
    }
    return null;
  }

  private Known meaning(String name) {
    for (int i = known.size() - 1; i >= 0; i--) {
      if (known.get(i).name.equals(name)) {
        return known.get(i);
      }
    }
    return null;
  }

  private Known called(int type) {
    int start = known.isEmpty() ? 0 : pick(known.size());
    for (int i = 0; i < known.size(); i++) {
      Known k = known.get((start + i) % known.size());
      boolean lower = k.rank < rank || pick(20) == 0;
      if (k.isFunction() && k.type == type && lower && (meaning(k.name) == k || wrong())) {
        return k;
      }
    }
    return null;
  }

  private void statements(int deep) {
    int n = pick(5);
    for (int i = 0; i < n; i++) {
      statement(deep);
    }
  }

  private void block(int deep) {
    int outer = known.size();
    int before = scope;
    scope = outer;
    tokens.add("{");
    statements(deep - 1);
    tokens.add("}");
    forget(outer);
    scope = before;
  }

  private void inner(int deep) {
    int outer = known.size();
    int before = scope;
    scope = outer;
    if (pick(3) == 0) {
      statement(deep - 1);
    } else {
      block(deep);
    }
    forget(outer);
    scope = before;
  }

  private void statement(int deep) {
    switch (pick(deep > 0 ? 14 : 8)) {
      case 0:
      case 1:
      case 2:
        assignment(pick(3) == 0 ? 1 + pick(2) : 0, 3);
        tokens.add(";");
        break;
      case 3:
        standing();
        tokens.add(";");
        break;
      case 4:
        String to = one("print", "put", "stop");
        if (meaning(to) == null || !meaning(to).isFunction() || to.equals("stop") && pick(4) != 0) {
          tokens.add(";");
          break;
        }
        add(to + " (");
        value(0, 3);
        add(") ;");
        break;
      case 5:
      case 6:
        local();
        break;
      case 7:
        leave();
        break;
      case 8:
      case 9:
        tokens.add("if");
        condition();
        inner(deep);
        if (pick(2) == 0) {
          tokens.add("else");
          inner(deep);
        }
        break;
      case 10:
        block(deep);
        break;
      default:
        loop(deep);
        break;
    }
  }

  private void condition() {
    tokens.add("(");
    value(wrong() ? Model.VOID : pick(4) == 0 ? 1 : 0, 3);
    tokens.add(")");
  }

  /** An expression that stands as a statement. */
  private void standing() {
    Known k = called(Model.VOID);
    if (k != null && pick(2) == 0) {
      String brackets = pick(6) == 0 ? "( " : "";
      add(brackets + k.name);
      arguments(k, 2);
      if (!brackets.isEmpty()) {
        tokens.add(")");
      }
    } else {
      value(pick(4) == 0 ? 1 : 0, 3);
    }
  }

  private void local() {
    tokens.add("int");
    do {
      String name = pick(2) == 0 ? fresh("a", "b", "i", "j", "t") : fresh(POOL);
      variable(new Known(name, pick(3) == 0 ? 1 + pick(2) : 0, pick(3) == 0 ? 1 + pick(5) : 0, null), true);
      tokens.add(pick(4) == 0 ? "," : ";");
    } while (tokens.get(tokens.size() - 1).equals(","));
  }

  private void leave() {
    if ((inLoop || wrong()) && pick(2) == 0) {
      add(one("break ;", "continue ;"));
    } else if (pick(3) == 0) {
      tokens.add("return");
      if (wrong() != (result != Model.VOID)) {
        fitting(result, 2);
      }
      tokens.add(";");
    } else {
      tokens.add(";");
    }
  }

  private void loop(int deep) {
    boolean before = inLoop;
    inLoop = true;
    switch (pick(3)) {
      case 0:
        tokens.add("while");
        condition();
        inner(deep);
        break;
      case 1:
        tokens.add("do");
        inner(deep);
        tokens.add("while");
        inLoop = before;
        condition();
        tokens.add(";");
        break;
      default:
        add("for (");
        if (pick(4) != 0) {
          standing();
        }
        tokens.add(";");
        if (pick(4) != 0) {
          value(pick(4) == 0 ? 1 : 0, 2);
        }
        tokens.add(";");
        if (pick(4) != 0) {
          standing();
        }
        tokens.add(")");
        inner(deep);
        break;
    }
    inLoop = before;
  }

  private void assignment(int type, int deep) {
    place(type, deep - 1);
    String sign = type == 0 || wrong() ? one(SIGNS) : one("=", "=", "+=", "-=");
    tokens.add(sign);
    if (sign.length() == 2 && "/%".indexOf(sign.charAt(0)) >= 0 && pick(4) != 0) {
      add("1 |");
    }
    fitting(sign.equals("=") ? type : 0, deep - 1);
  }

  /** A value that is put: for a pointer also the NUMBER 0. */
  private void fitting(int type, int deep) {
    if (type > 0 && pick(12) == 0) {
      tokens.add(one("0", "0", "( 0 )", "'\\0'", "0x0"));
    } else {
      value(type, deep);
    }
  }

  private void place(int type, int deep) {
    Known k = some(type, true, false);
    if (k != null && (deep <= 0 || pick(2) == 0)) {
      add(pick(9) == 0 ? "( " + k.name + " )" : k.name);
    } else if (deep <= 0 || type > 4) {
      add("* ( int");
      stars(Math.min(type + 1, 5));
      add(") ( " + one("16", "18", "20", "24", "32700", "15") + " + 1 )");
    } else if (pick(2) == 0) {
      tokens.add("*");
      wrapped(type + 1, deep - 1);
    } else {
      wrapped(type + 1, deep - 1);
      tokens.add("[");
      if (pick(2) == 0) {
        tokens.add(one("0", "1", "2"));
      } else {
        tokens.add("(");
        value(0, deep - 2);
        add(pick(3) == 0 ? ")" : ") & 3");
      }
      tokens.add("]");
    }
  }

  private void wrapped(int type, int deep) {
    Known k = pick(6) == 0 ? null : some(type, pick(5) == 0, true);
    Known v = some(type - 1, true, false);
    if (k != null) {
      tokens.add(k.name);
    } else if (v != null && pick(3) != 0) {
      add("( & " + v.name + " )");
    } else {
      tokens.add("(");
      value(type, deep);
      tokens.add(")");
    }
  }

  private void arguments(Known k, int deep) {
    tokens.add("(");
    int n = wrong() ? pick(4) : k.parameters.length;
    for (int i = 0; i < n; i++) {
      fitting(i < k.parameters.length ? k.parameters[i] : 0, deep - 1);
      if (i + 1 < n) {
        tokens.add(",");
      }
    }
    tokens.add(")");
  }

  private void value(int wanted, int deep) {
    int type = wrong() ? pick(4) - 1 : wanted;
    Known k = some(type, true, true);
    Known f = deep > 0 && pick(5) == 0 ? called(type) : null;
    if (f != null) {
      tokens.add(f.name);
      arguments(f, deep);
    } else if (deep <= 0 || pick(5) == 0) {
      if (k != null && pick(3) != 0) {
        tokens.add(k.name);
      } else if (type == 0) {
        number();
      } else {
        leaf(type);
      }
    } else if (type > 0) {
      pointing(type, deep);
    } else {
      number(deep);
    }
  }

  private void leaf(int type) {
    Known v = some(type - 1, true, false);
    if (type < 1 || wrong()) {
      tokens.add("0");
    } else if (v != null && pick(4) != 0) {
      add("& " + v.name);
    } else if (type == 1 && pick(2) == 0) {
      string();
    } else {
      add("( int");
      stars(Math.min(type, 5));
      add(") " + one("0", "16", "20", "30000"));
    }
  }

  private void binary(String sign, int left, int right, int deep) {
    boolean divides = sign.equals("/") || sign.equals("%");
    tokens.add("(");
    value(left, deep - 1);
    tokens.add(sign);
    if (divides && pick(5) != 0) {
      tokens.add("(");
      value(right, deep - 1);
      add("| 1 )");
    } else {
      value(right, deep - 1);
    }
    tokens.add(")");
  }

  private void number(int deep) {
    int some = pick(4) == 0 ? 1 + pick(2) : 0;
    switch (pick(13)) {
      case 0:
      case 1:
      case 2:
        binary(one(INTS), 0, 0, deep);
        break;
      case 3:
        if (some > 0 && pick(3) == 0) {
          zero(some, deep);
        } else {
          binary(one(COMPARES), some, some, deep);
        }
        break;
      case 4:
        binary(one("&&", "||"), some, pick(4) == 0 ? 1 : 0, deep);
        break;
      case 5:
        tokens.add(one("-", "~", "!"));
        value(0, deep - 1);
        break;
      case 6:
        choice(some, 0, deep);
        break;
      case 7:
        tokens.add("(");
        assignment(0, deep);
        tokens.add(")");
        break;
      case 8:
        stepped(0, deep);
        break;
      case 9:
        add("( int )");
        value(some, deep - 1);
        break;
      case 10:
        binary("-", 1, 1, deep);
        break;
      default:
        place(0, deep - 1);
        break;
    }
  }

  private void zero(int type, int deep) {
    boolean left = pick(2) == 0;
    add(left ? "( 0" : "(");
    if (!left) {
      value(type, deep - 1);
    }
    tokens.add(wrong() ? "<" : one("==", "!="));
    if (left) {
      value(type, deep - 1);
    }
    add(left ? ")" : "0 )");
  }

  private void choice(int test, int type, int deep) {
    tokens.add("(");
    value(test, deep - 1);
    boolean zero = pick(4) == 0;
    tokens.add("?");
    if (zero) {
      fitting(type, deep - 1);
    } else {
      value(type, deep - 1);
    }
    tokens.add(":");
    value(type, deep - 1);
    tokens.add(")");
  }

  private void stepped(int type, int deep) {
    String sign = one("++", "--");
    boolean behind = pick(2) == 0;
    tokens.add(behind ? "(" : sign);
    place(type, deep - 1);
    if (behind) {
      add(") " + sign);
    }
  }

  private void pointing(int type, int deep) {
    switch (pick(9)) {
      case 0:
        tokens.add("&");
        place(type - 1, deep - 1);
        break;
      case 1:
        binary("+", type, 0, deep);
        break;
      case 2:
        binary("+", 0, type, deep);
        break;
      case 3:
        binary("-", type, 0, deep);
        break;
      case 4:
        choice(0, type, deep);
        break;
      case 5:
        tokens.add("(");
        assignment(type, deep);
        tokens.add(")");
        break;
      case 6:
        stepped(type, deep);
        break;
      case 7:
        add("( int");
        stars(Math.min(type, 5));
        tokens.add(")");
        value(pick(4) == 0 ? 0 : 1, deep - 1);
        break;
      default:
        place(type, deep - 1);
        break;
    }
  }

  /** Now and then a token is left out, put twice, put elsewhere or made another one. */
  private void spoil() {
    if (wrongOne > 1000 || pick(3) != 0) {
      return;
    }
    int n = 1 + pick(2);
    for (int i = 0; i < n && tokens.size() > 2; i++) {
      int at = pick(tokens.size());
      switch (pick(5)) {
        case 0:
          tokens.remove(at);
          break;
        case 1:
          tokens.add(at, tokens.get(pick(tokens.size())));
          break;
        case 2:
          tokens.add(at, one(ANY));
          break;
        default:
          tokens.set(at, pick(2) == 0 ? one(ANY) : tokens.get(pick(tokens.size())));
          break;
      }
    }
  }

  /** The tokens with blanks between where these are needed, or wanted. */
  private String joined() {
    StringBuilder all = new StringBuilder();
    for (String token : tokens) {
      all.append(blank(all, token)).append(token);
    }
    all.append(one("", "", "\n", " // end", "/* */"));
    while (all.length() > 0 && wrongOne < 1000 && pick(15) == 0) {
      all.setCharAt(pick(all.length()), pick(4) == 0 ? (char) pick(256) : "az019 \n*/\"'\\;({".charAt(pick(15)));
    }
    return all.substring(0, Math.min(all.length(), 16000));
  }

  private String blank(StringBuilder before, String token) {
    String loose = "(){}[],;";
    char last = before.length() == 0 ? ';' : before.charAt(before.length() - 1);
    boolean needed = loose.indexOf(last) < 0 && loose.indexOf(token.charAt(0)) < 0;
    if (!needed && pick(3) != 0) {
      return "";
    }
    return one(" ", " ", " ", " ", "\n", "\n", "\t", "\r", " /* b */ ", " // c\n");
  }
}
