import java.util.Arrays;

/**
 * Units of a small C, compiled one by one into objects, linked into one image, and run: at every
 * level of optimising the image prints, fails and leaves in memory what the units say.
 *
 * <p>A text becomes tokens (Tokens), these become steps in the order in which the document looks at
 * a unit (Grammar), and each step is checked and turned into instructions (Statements,
 * Declarations, Expressions). Store keeps the objects, Image links them, Machine runs the image.
 */
public final class LinkedUnits {
  private static final int MOST_BYTES = 16000;
  private static final int MOST_FED = 65536;
  private static final int MOST_OBJECTS = 100;
  private static final int MOST_NAMES = 100;
  private static final int MOST_DATA = 16000;
  private static final int MOST_SIZE = 4000;
  private static final int MOST_DEEP = 25;
  private static final int MOST_HIGH = 60;
  private static final int CELLS = 32768;
  private static final int FIRST_CELL = 16;

  /** A type is its number of stars; only a function's result may be this instead. */
  private static final int VOID = -1;

  private final byte[] tray = new byte[MOST_BYTES];
  private int held = 0;
  private int fed = 0;
  private int faultPlace = -1;
  private final Tokens tokens = new Tokens(tray);
  private final Grammar grammar = new Grammar(tokens);
  private final Code code = new Code();
  private final Store store = new Store(code);
  private final Unit unit = new Unit(tokens, store);
  private final Expressions expressions = new Expressions(grammar, unit, code);
  private final Declarations declarations = new Declarations(grammar, unit, expressions);
  private final Statements statements = new Statements(grammar, unit, declarations);
  private final Image image = new Image(store);
  private final Tape tape = new Tape();
  private final Machine machine = new Machine(image, tape);

  public LinkedUnits() {
  }

  public int feed(int a, int b, int c, int d, int e) {
    if (held + 20 > MOST_BYTES || fed + 20 > MOST_FED) {
      return -1;
    }
    takeBytes(a);
    takeBytes(b);
    takeBytes(c);
    takeBytes(d);
    takeBytes(e);
    fed += 20;
    return held;
  }

  private void takeBytes(int four) {
    for (int shift = 24; shift >= 0 && held < tray.length; shift -= 8) {
      tray[held] = (byte) (four >> shift);
      held++;
    }
  }

  public int end(int n) {
    if (n < 0 || n > held) {
      return -1;
    }
    held = n;
    return n;
  }

  public int compile(int level) {
    int length = held;
    held = 0;
    faultPlace = -1;
    if (level < 0 || level > 3 || store.objects >= MOST_OBJECTS) {
      return -14;
    }
    tokens.scan(length);
    if (!grammar.read()) {
      faultPlace = at(tokens.places, grammar.wrong);
      return -21;
    }
    statements.walk(level);
    if (unit.fault != 0) {
      store.forget();
      faultPlace = at(tokens.places, unit.faultToken);
      return -20 - unit.fault;
    }
    return store.keep(unit.data);
  }

  public int place() {
    return faultPlace;
  }

  public int objects() {
    return store.objects;
  }

  public int count(int o, int what) {
    if (!store.has(o) || what < 0 || what > 1) {
      return -1;
    }
    return what == 0 ? store.symbolsOf(o) : at(store.dataCells, o);
  }

  public int name(int o, int s, int i) {
    return store.nameByte(store.symbolAt(o, s), i);
  }

  public int symbol(int o, int s) {
    int d = store.symbolAt(o, s);
    if (d < 0) {
      return -1;
    }
    int answer = store.is(d, Store.FUNCTION) ? 2 : 1;
    if (store.is(d, Store.DEFINED)) {
      return answer + 4;
    }
    return store.is(d, Store.MENTIONED) ? answer + 8 : answer;
  }

  public int pick(int o) {
    return store.has(o) ? image.choose(o) : -1;
  }

  public int link() {
    return image.join();
  }

  public int fault(int what) {
    return what == 0 ? image.faultObject : what == 1 ? image.faultSymbol : -1;
  }

  public int cell() {
    int length = held;
    held = 0;
    return image.cellOf(tray, length);
  }

  public int input(int b) {
    return tape.give(b);
  }

  public int run(int fuel) {
    if (!image.ready) {
      return -1;
    }
    return fuel < 0 || fuel > 20000 ? -2 : machine.execute(fuel);
  }

  public int result() {
    return machine.answer;
  }

  public int turns() {
    return machine.turned;
  }

  public int trap(int what) {
    return what == 0 ? store.objectAt(machine.trapPlace) : what == 1 ? machine.trapLine : 0;
  }

  public int written() {
    return tape.outputs;
  }

  public int out(int i) {
    return tape.byteAt(i);
  }

  public int peek(int i) {
    return at(machine.memory, i);
  }

  public int strays() {
    return machine.strayed;
  }

  private static int at(int[] row, int i) {
    return i >= 0 && i < row.length ? row[i] : 0;
  }

  private static void set(int[] row, int i, int value) {
    if (i >= 0 && i < row.length) {
      row[i] = value;
    }
  }

  /** A text's tokens, a row each: the last one is the text's end, or what is no token. */
  private static final class Tokens {
    private static final int END = 0;
    private static final int BAD = 1;
    private static final int NAME = 2;
    private static final int NUMBER = 3;
    private static final int STRING = 4;

    /** The words, in the order of their kinds from INT on, a space behind each. */
    private static final String WORDS =
        "int void static extern if else while do for break continue return ";

    private static final int INT = 5;
    private static final int NO_VALUE = 6;
    private static final int STATIC = 7;
    private static final int EXTERN = 8;
    private static final int IF = 9;
    private static final int ELSE = 10;
    private static final int WHILE = 11;
    private static final int DO = 12;
    private static final int FOR = 13;
    private static final int BREAK = 14;
    private static final int CONTINUE = 15;
    private static final int RETURN = 16;

    /** The signs, in the order of their kinds from ROUND on, a space behind each. */
    private static final String SIGNS =
        "( ) { } [ ] , ; ? : = <<= >>= += -= *= /= %= &= |= ^= << >> + - * / % & | ^ == != < > <= >= || && ! ~ ++ -- ";

    private static final int ROUND = 20;
    private static final int ROUND_END = 21;
    private static final int CURLY = 22;
    private static final int CURLY_END = 23;
    private static final int SQUARE = 24;
    private static final int SQUARE_END = 25;
    private static final int COMMA = 26;
    private static final int SEMICOLON = 27;
    private static final int QUESTION = 28;
    private static final int COLON = 29;
    private static final int ASSIGN = 30;
    private static final int ADD_ASSIGN = 33;
    private static final int SUB_ASSIGN = 34;
    private static final int XOR_ASSIGN = 40;
    private static final int SHL = 41;
    private static final int SHR = 42;
    private static final int ADD = 43;
    private static final int SUB = 44;
    private static final int MUL = 45;
    private static final int DIV = 46;
    private static final int REM = 47;
    private static final int AND = 48;
    private static final int OR = 49;
    private static final int XOR = 50;
    private static final int EQUAL = 51;
    private static final int UNEQUAL = 52;
    private static final int LESS = 53;
    private static final int MORE = 54;
    private static final int NOT_MORE = 55;
    private static final int NOT_LESS = 56;
    private static final int OR_ELSE = 57;
    private static final int AND_THEN = 58;
    private static final int NOT = 59;
    private static final int FLIP = 60;
    private static final int PLUS_PLUS = 61;
    private static final int MINUS_MINUS = 62;

    /** How far an assignment with an operator stands before that operator among the signs. */
    private static final int TO_OPERATOR = 10;

    private static final int LONGEST_NAME = 24;
    private static final int LONGEST_STRING = 200;
    private static final int LONGEST_SIGN = 3;

    private final byte[] text;
    private int size;
    private int position;
    private int row;
    private int count;
    private final int[] kinds = new int[MOST_BYTES + 2];
    /** A number's value, a name's bytes, a string's codes: how many. */
    private final int[] values = new int[MOST_BYTES + 2];
    private final int[] places = new int[MOST_BYTES + 2];
    private final int[] lines = new int[MOST_BYTES + 2];
    private final int[] codes = new int[LONGEST_STRING];

    private Tokens(byte[] text) {
      this.text = text;
    }

    private void scan(int length) {
      size = length;
      position = 0;
      row = 1;
      count = 0;
      boolean more = true;
      for (int n = 0; n <= size && more; n++) {
        more = skipBlanks() && token();
      }
    }

    private int byteAt(int i) {
      return i >= 0 && i < size && i < text.length ? text[i] & 255 : -1;
    }

    private static boolean mayOccur(int c) {
      return c >= 32 && c <= 126 || c == 9 || c == 10 || c == 13;
    }

    private boolean skipBlanks() {
      for (int n = 0; n <= size; n++) {
        int c = byteAt(position);
        int next = c == '/' ? byteAt(position + 1) : -1;
        if (next == '/' || next == '*') {
          if (!(next == '/' ? skipLine() : skipComment())) {
            return false;
          }
        } else if (c == 9 || c == 10 || c == 13 || c == 32) {
          row += c == 10 ? 1 : 0;
          position++;
        } else {
          return true;
        }
      }
      return true;
    }

    private boolean skipLine() {
      for (; position < size && byteAt(position) != 10; position++) {
        if (!mayOccur(byteAt(position))) {
          return bad(position);
        }
      }
      return true;
    }

    private boolean skipComment() {
      for (int i = position + 2; i < size; i++) {
        int c = byteAt(i);
        if (!mayOccur(c)) {
          return bad(i);
        }
        row += c == 10 ? 1 : 0;
        if (c == '*' && byteAt(i + 1) == '/') {
          position = i + 2;
          return true;
        }
      }
      return bad(position);
    }

    /** Takes the token at the position: whether another may follow it. */
    private boolean token() {
      int c = byteAt(position);
      if (c < 0) {
        add(END, 0, 0);
        return false;
      }
      if (isLetter(c)) {
        return word();
      }
      if (isDigit(c)) {
        return c == '0' && byteAt(position + 1) == 'x' && sixteenth(byteAt(position + 2)) >= 0
            ? sixteens() : digits();
      }
      if (c == '\'') {
        return character();
      }
      return c == '"' ? string() : sign();
    }

    private boolean add(int kind, int value, int length) {
      if (count >= 0 && count < kinds.length && count < values.length
          && count < places.length && count < lines.length) {
        kinds[count] = kind;
        values[count] = value;
        places[count] = position;
        lines[count] = row;
        count++;
      }
      position += length;
      return true;
    }

    private boolean bad(int where) {
      position = where;
      add(BAD, 0, 0);
      return false;
    }

    private static boolean isDigit(int c) {
      return c >= '0' && c <= '9';
    }

    private static boolean isLetter(int c) {
      return c >= 'a' && c <= 'z' || c >= 'A' && c <= 'Z' || c == '_';
    }

    private static int sixteenth(int c) {
      if (isDigit(c)) {
        return c - '0';
      }
      if (c >= 'a' && c <= 'f') {
        return c - 'a' + 10;
      }
      return c >= 'A' && c <= 'F' ? c - 'A' + 10 : -1;
    }

    private boolean word() {
      int length = 1;
      for (int c = byteAt(position + 1); length <= size && (isLetter(c) || isDigit(c)); length++) {
        c = byteAt(position + length + 1);
      }
      if (length > LONGEST_NAME) {
        return bad(position);
      }
      int word = listed(WORDS, length);
      return add(word < 0 ? NAME : INT + word, length, length);
    }

    /** The number of the text's next bytes in a list with a space behind each part, or -1. */
    private int listed(String list, int length) {
      int part = 0;
      int begin = 0;
      for (int i = 0; i < list.length(); i++) {
        if (list.charAt(i) == ' ') {
          if (i - begin == length && isNext(list, begin, length)) {
            return part;
          }
          begin = i + 1;
          part++;
        }
      }
      return -1;
    }

    private boolean isNext(String list, int begin, int length) {
      for (int i = 0; i < length; i++) {
        if (begin + i >= list.length() || list.charAt(begin + i) != byteAt(position + i)) {
          return false;
        }
      }
      return true;
    }

    private boolean digits() {
      long value = 0;
      int length = 0;
      for (int c = byteAt(position); length <= size && isDigit(c); length++) {
        value = Math.min(value * 10 + (c - '0'), 1L << 32);
        c = byteAt(position + length + 1);
      }
      return value > Integer.MAX_VALUE ? bad(position) : add(NUMBER, (int) value, length);
    }

    private boolean sixteens() {
      int value = 0;
      int length = 2;
      for (int c = sixteenth(byteAt(position + 2)); length <= size && c >= 0; length++) {
        value = value * 16 + c;
        c = sixteenth(byteAt(position + length + 1));
      }
      return length > 10 ? bad(position) : add(NUMBER, value, length);
    }

    /** What the bytes from i on mean in a string or between two quotes: a code, or -1. */
    private int codeAt(int i, int quote) {
      int c = byteAt(i);
      if (c != '\\') {
        return c < 32 || c > 126 || c == quote ? -1 : c;
      }
      int next = byteAt(i + 1);
      switch (next) {
        case 'n':
          return 10;
        case '0':
          return 0;
        case '\\':
        case '\'':
        case '"':
          return next;
        default:
          return -1;
      }
    }

    private int widthAt(int i) {
      return byteAt(i) == '\\' ? 2 : 1;
    }

    private boolean character() {
      int value = codeAt(position + 1, '\'');
      int length = 1 + widthAt(position + 1);
      return value < 0 || byteAt(position + length) != '\''
          ? bad(position) : add(NUMBER, value, length + 1);
    }

    private boolean string() {
      int length = 1;
      int n = 0;
      for (; n <= LONGEST_STRING && byteAt(position + length) != '"'; n++) {
        if (codeAt(position + length, '"') < 0) {
          return bad(position);
        }
        length += widthAt(position + length);
      }
      return n > LONGEST_STRING ? bad(position) : add(STRING, n, length + 1);
    }

    private boolean sign() {
      int longest = mayGoOn(byteAt(position + 1)) ? LONGEST_SIGN : 1;
      for (int length = longest; length > 0; length--) {
        int sign = listed(SIGNS, length);
        if (sign >= 0) {
          return add(ROUND + sign, 0, length);
        }
      }
      return bad(position);
    }

    /** Whether a byte may stand behind the first one of a sign. */
    private static boolean mayGoOn(int c) {
      return c == '=' || c == '<' || c == '>' || c == '+' || c == '-' || c == '&' || c == '|';
    }

    /** Puts a string's codes into the row of codes: how many it has. */
    private int readCodes(int token) {
      int n = Math.min(at(values, token), LONGEST_STRING);
      int i = at(places, token) + 1;
      for (int k = 0; k < n; k++) {
        set(codes, k, codeAt(i, '"'));
        i += widthAt(i);
      }
      return n;
    }

    private boolean sameName(int a, int b) {
      int length = at(values, a);
      if (length != at(values, b)) {
        return false;
      }
      int from = at(places, a);
      int other = at(places, b);
      for (int i = 0; i < length; i++) {
        if (from + i >= text.length || other + i >= text.length || text[from + i] != text[other + i]) {
          return false;
        }
      }
      return true;
    }
  }

  /**
   * Reads tokens as a unit and tells the steps of looking at it, in their order: operands before
   * their operator, so that no later reader needs a tree.
   */
  private static final class Grammar {
    private static final int NUMBER = 1;
    private static final int STRING = 2;
    private static final int NAME = 3;
    private static final int CALLEE = 4;
    private static final int ARGUMENT = 5;
    private static final int CALL = 6;
    /** Behind the left side of a sign with two sides. */
    private static final int LEFT = 7;
    private static final int BINARY = 8;
    private static final int ASSIGN = 9;
    private static final int INDEX = 10;
    private static final int UNARY = 11;
    private static final int CAST = 12;
    private static final int BEHIND = 13;
    private static final int QUESTION = 14;
    private static final int COLON = 15;
    private static final int CHOICE = 16;

    private static final int FIRST_STATEMENT = 20;
    private static final int OPEN = 20;
    private static final int CLOSE = 21;
    private static final int DISCARD = 22;
    private static final int IF = 23;
    private static final int ELSE = 24;
    private static final int IF_END = 25;
    private static final int WHILE = 26;
    private static final int WHILE_TEST = 27;
    private static final int WHILE_END = 28;
    private static final int DO = 29;
    private static final int DO_AGAIN = 30;
    private static final int DO_TEST = 31;
    private static final int FOR = 32;
    private static final int FOR_TEST = 33;
    private static final int FOR_BODY = 34;
    private static final int FOR_END = 35;
    private static final int BREAK = 36;
    private static final int CONTINUE = 37;
    private static final int RETURN = 38;

    private static final int FIRST_DECLARATION = 40;
    /** A size between [ ], up to the step that its first number tells. */
    private static final int SIZE = 40;
    private static final int SIZE_END = 41;
    /** A variable's [: whether a size stands there, and the size that is counted behind =. */
    private static final int BRACKET = 42;
    /** A variable's name: its stars; its linkage, and whether = stands behind it. */
    private static final int VARIABLE = 43;
    private static final int ITEM = 44;
    /** A string that fills an array. */
    private static final int FILL = 45;
    /** A variable's =: what stood behind it. */
    private static final int INITIAL = 46;
    /** A function's name: its signature; its result, linkage and whether it has a body. */
    private static final int FUNCTION = 47;
    private static final int PARAMETER = 48;
    private static final int FUNCTION_END = 49;

    private static final int PLAIN_LINKAGE = 0;
    private static final int STATIC_LINKAGE = 1;
    private static final int EXTERN_LINKAGE = 2;
    private static final int LINKAGE = 3;
    /** Above the linkage: of a variable, and of a function. */
    private static final int WITH_INITIAL = 4;
    private static final int WITH_BODY = 4;
    /** A function's result plus 1 is counted in these, above its linkage and body. */
    private static final int RESULT_UNIT = 8;

    private static final int EXPRESSION_BEHIND = 0;
    private static final int LIST_BEHIND = 1;
    private static final int FILL_BEHIND = 2;

    private static final int MOST_STEPS = 2 * MOST_BYTES + 100;
    private static final int MOST_PARAMETERS = 8;
    private static final int MOST_STARS = 5;
    /** No token is of this kind. */
    private static final int NOTHING = -1;

    /** How tightly the signs with two sides bind, from Tokens.SHL on. */
    private static final int[] LEVELS = {8, 8, 9, 9, 10, 10, 10, 5, 3, 4, 6, 6, 7, 7, 7, 7, 1, 2};

    private final Tokens tokens;
    private int position;
    private int kind;
    /** The token that makes fault 1, or -1. */
    private int wrong;
    private int count;
    private final int[] acts = new int[MOST_STEPS];
    private final int[] ats = new int[MOST_STEPS];
    private final int[] firsts = new int[MOST_STEPS];
    private final int[] seconds = new int[MOST_STEPS];
    private int pending;
    private final int[] operators = new int[16 * MOST_DEEP];
    private final int[] parameterAt = new int[MOST_PARAMETERS];

    private Grammar(Tokens tokens) {
      this.tokens = tokens;
    }

    /** Whether the tokens are a unit. */
    private boolean read() {
      count = 0;
      pending = 0;
      wrong = -1;
      position = -1;
      advance();
      for (int n = tokens.count; n > 0 && wrong < 0 && kind != Tokens.END; n--) {
        int linkage = kind == Tokens.STATIC ? STATIC_LINKAGE
            : kind == Tokens.EXTERN ? EXTERN_LINKAGE : PLAIN_LINKAGE;
        if (linkage != PLAIN_LINKAGE) {
          advance();
        }
        boolean isVoid = kind == Tokens.NO_VALUE;
        expect(isVoid ? Tokens.NO_VALUE : Tokens.INT);
        int type = isVoid ? VOID : stars();
        int name = position;
        expect(Tokens.NAME);
        if (!isVoid && kind != Tokens.ROUND) {
          variables(name, type, linkage);
        } else if (head(name, type, linkage)) {
          statements(1);
          add(FUNCTION_END, name, 0, 0);
        }
      }
      return wrong < 0;
    }

    private void advance() {
      position++;
      boolean inside = position >= 0 && position < tokens.count && position < tokens.kinds.length;
      kind = inside ? tokens.kinds[position] : Tokens.END;
    }

    private void fail() {
      if (wrong < 0) {
        wrong = position;
      }
      kind = NOTHING;
    }

    private void expect(int wanted) {
      if (kind == wanted) {
        advance();
      } else {
        fail();
      }
    }

    private boolean accept(int wanted) {
      boolean found = kind == wanted;
      if (found) {
        advance();
      }
      return found;
    }

    private int add(int act, int token, int first, int second) {
      int i = count;
      if (i >= 0 && i < acts.length && i < ats.length && i < firsts.length && i < seconds.length) {
        acts[i] = act;
        ats[i] = token;
        firsts[i] = first;
        seconds[i] = second;
        count++;
      }
      return i;
    }

    private int stars() {
      int stars = 0;
      for (; stars < MOST_STARS && kind == Tokens.MUL; stars++) {
        advance();
      }
      if (kind == Tokens.MUL) {
        fail();
      }
      return stars;
    }

    /** What stands of a function before its body: whether it has one. */
    private boolean head(int name, int result, int linkage) {
      expect(Tokens.ROUND);
      int signature = 0;
      if (kind == Tokens.NO_VALUE) {
        advance();
      } else if (kind != Tokens.ROUND_END) {
        signature = parameters();
      }
      expect(Tokens.ROUND_END);
      boolean body = kind == Tokens.CURLY;
      add(FUNCTION, name, signature, (result + 1) * RESULT_UNIT + linkage + (body ? WITH_BODY : 0));
      if (!body) {
        expect(Tokens.SEMICOLON);
      }
      for (int i = 0; i < Store.parameters(signature) && body; i++) {
        add(PARAMETER, at(parameterAt, i), Store.parameter(signature, i), 0);
      }
      return body;
    }

    /** Reads parameters and keeps where each one's name stands, or what is there instead. */
    private int parameters() {
      int signature = 0;
      int n = 0;
      boolean more = true;
      for (; n < MOST_PARAMETERS && more; n++) {
        expect(Tokens.INT);
        int type = stars();
        int name = position;
        boolean named = accept(Tokens.NAME);
        if (accept(Tokens.SQUARE)) {
          expect(Tokens.SQUARE_END);
          type++;
        }
        set(parameterAt, n, named ? name : position);
        signature = Store.withParameter(signature, type);
        more = accept(Tokens.COMMA);
      }
      if (more) {
        fail();
      }
      return signature;
    }

    private void variables(int firstName, int firstType, int linkage) {
      int name = firstName;
      int type = firstType;
      boolean more = true;
      for (int n = tokens.count; n > 0 && more; n--) {
        int bracket = kind == Tokens.SQUARE ? bracket() : -1;
        boolean set = kind == Tokens.ASSIGN;
        add(VARIABLE, name, type, set ? linkage + WITH_INITIAL : linkage);
        if (set) {
          initial(bracket, type);
        }
        more = accept(Tokens.COMMA);
        if (more) {
          type = stars();
          name = position;
          expect(Tokens.NAME);
        }
      }
      expect(Tokens.SEMICOLON);
    }

    private int bracket() {
      int square = position;
      advance();
      boolean given = kind != Tokens.SQUARE_END;
      if (given) {
        int size = add(SIZE, square, 0, 0);
        expression(1);
        set(firsts, size, add(SIZE_END, square, 0, 0));
      }
      expect(Tokens.SQUARE_END);
      return add(BRACKET, square, given ? 1 : 0, 0);
    }

    private void initial(int bracket, int type) {
      int sign = position;
      advance();
      int next = at(tokens.kinds, position + 1);
      boolean filled = bracket >= 0 && kind == Tokens.STRING
          && (next == Tokens.COMMA || next == Tokens.SEMICOLON);
      if (filled) {
        set(seconds, bracket, at(tokens.values, position) + 1);
      }
      if (kind == Tokens.CURLY) {
        advance();
        int n = 0;
        boolean more = true;
        for (; n < tokens.count && more; n++) {
          expression(1);
          add(ITEM, position, 0, 0);
          more = accept(Tokens.COMMA);
        }
        expect(Tokens.CURLY_END);
        set(seconds, bracket, n);
        add(INITIAL, sign, LIST_BEHIND, 0);
      } else if (filled && type == 0) {
        add(FILL, position, 0, 0);
        advance();
        add(INITIAL, sign, FILL_BEHIND, 0);
      } else {
        expression(1);
        add(INITIAL, sign, EXPRESSION_BEHIND, 0);
      }
    }

    /** A { with its statements, which stand so deep, and its }. */
    private void statements(int depth) {
      expect(Tokens.CURLY);
      for (int n = tokens.count; n > 0 && wrong < 0 && kind != Tokens.CURLY_END; n--) {
        statement(depth);
      }
      expect(Tokens.CURLY_END);
    }

    private void statement(int depth) {
      if (depth > MOST_DEEP) {
        fail();
        return;
      }
      int word = position;
      switch (kind) {
        case Tokens.CURLY:
          add(OPEN, word, 0, 0);
          statements(depth + 1);
          add(CLOSE, word, 0, 0);
          break;
        case Tokens.SEMICOLON:
          advance();
          break;
        case Tokens.INT:
          advance();
          int type = stars();
          int name = position;
          expect(Tokens.NAME);
          variables(name, type, PLAIN_LINKAGE);
          break;
        case Tokens.IF:
          conditional(depth);
          break;
        case Tokens.WHILE:
        case Tokens.DO:
        case Tokens.FOR:
          loop(depth);
          break;
        default:
          simple();
          break;
      }
    }

    private void simple() {
      int word = position;
      if (kind == Tokens.BREAK || kind == Tokens.CONTINUE) {
        add(kind == Tokens.BREAK ? BREAK : CONTINUE, word, 0, 0);
        advance();
      } else if (kind == Tokens.RETURN) {
        advance();
        boolean given = kind != Tokens.SEMICOLON;
        if (given) {
          expression(1);
        }
        add(RETURN, word, given ? 1 : 0, 0);
      } else {
        expression(1);
        add(DISCARD, word, 0, 0);
      }
      expect(Tokens.SEMICOLON);
    }

    private void conditional(int depth) {
      int word = position;
      advance();
      condition(IF, word);
      body(depth);
      if (kind == Tokens.ELSE) {
        add(ELSE, word, 0, 0);
        advance();
        body(depth);
      }
      add(IF_END, word, 0, 0);
    }

    private void condition(int act, int word) {
      expect(Tokens.ROUND);
      expression(1);
      expect(Tokens.ROUND_END);
      add(act, word, 0, 0);
    }

    private void body(int depth) {
      add(OPEN, position, 0, 0);
      statement(depth + 1);
      add(CLOSE, position, 0, 0);
    }

    private void loop(int depth) {
      int word = position;
      int loop = kind;
      advance();
      if (loop == Tokens.WHILE) {
        add(WHILE, word, 0, 0);
        condition(WHILE_TEST, word);
        body(depth);
        add(WHILE_END, word, 0, 0);
      } else if (loop == Tokens.DO) {
        add(DO, word, 0, 0);
        body(depth);
        int behind = position;
        expect(Tokens.WHILE);
        add(DO_AGAIN, behind, 0, 0);
        condition(DO_TEST, behind);
        expect(Tokens.SEMICOLON);
      } else {
        counted(word);
        body(depth);
        add(FOR_END, word, 0, 0);
      }
    }

    /** What stands behind the word for, up to its body. */
    private void counted(int word) {
      expect(Tokens.ROUND);
      if (kind != Tokens.SEMICOLON) {
        expression(1);
        add(DISCARD, word, 0, 0);
      }
      expect(Tokens.SEMICOLON);
      add(FOR, word, 0, 0);
      boolean tested = kind != Tokens.SEMICOLON;
      if (tested) {
        expression(1);
      }
      add(FOR_TEST, word, tested ? 1 : 0, 0);
      expect(Tokens.SEMICOLON);
      if (kind != Tokens.ROUND_END) {
        expression(1);
        add(DISCARD, word, 0, 0);
      }
      expect(Tokens.ROUND_END);
      add(FOR_BODY, word, 0, 0);
    }

    /** Takes a sign behind which the text is one deeper: whether it may. */
    private boolean deeper(int depth) {
      boolean fits = depth < MOST_DEEP;
      if (fits) {
        advance();
      } else {
        fail();
      }
      return fits;
    }

    private void expression(int depth) {
      choice(depth);
      int sign = position;
      if (kind >= Tokens.ASSIGN && kind <= Tokens.XOR_ASSIGN && deeper(depth)) {
        add(LEFT, sign, 0, 0);
        expression(depth + 1);
        add(ASSIGN, sign, 0, 0);
      }
    }

    private void choice(int depth) {
      binary(depth);
      int sign = position;
      if (kind == Tokens.QUESTION && deeper(depth)) {
        add(QUESTION, sign, 0, 0);
        expression(depth + 1);
        expect(Tokens.COLON);
        add(COLON, sign, 0, 0);
        choice(depth + 1);
        add(CHOICE, sign, 0, 0);
      }
    }

    private static int levelOf(int sign) {
      int i = sign - Tokens.SHL;
      return i >= 0 && i < LEVELS.length ? LEVELS[i] : 0;
    }

    /** Operators wait in a row of their own, so that a level costs no call. */
    private void binary(int depth) {
      int base = pending;
      unary(depth);
      for (int n = tokens.count; n > 0 && levelOf(kind) > 0; n--) {
        settle(base, levelOf(kind));
        set(operators, pending, position);
        pending++;
        add(LEFT, position, 0, 0);
        advance();
        unary(depth);
      }
      settle(base, 0);
    }

    private void settle(int base, int level) {
      for (; pending > base; pending--) {
        int sign = at(operators, pending - 1);
        if (levelOf(at(tokens.kinds, sign)) < level) {
          return;
        }
        add(BINARY, sign, 0, 0);
      }
    }

    private void unary(int depth) {
      int sign = position;
      switch (kind) {
        case Tokens.SUB:
        case Tokens.NOT:
        case Tokens.FLIP:
        case Tokens.MUL:
        case Tokens.AND:
        case Tokens.PLUS_PLUS:
        case Tokens.MINUS_MINUS:
          if (deeper(depth)) {
            unary(depth + 1);
            add(UNARY, sign, 0, 0);
          }
          break;
        default:
          if (kind == Tokens.ROUND && at(tokens.kinds, sign + 1) == Tokens.INT) {
            cast(depth);
          } else {
            behind(depth);
          }
          break;
      }
    }

    private void cast(int depth) {
      int sign = position;
      if (deeper(depth)) {
        expect(Tokens.INT);
        int type = stars();
        expect(Tokens.ROUND_END);
        unary(depth + 1);
        add(CAST, sign, type, 0);
      }
    }

    private void behind(int depth) {
      primary(depth);
      boolean more = true;
      for (int n = tokens.count; n > 0 && more; n--) {
        int sign = position;
        more = kind == Tokens.SQUARE || kind == Tokens.PLUS_PLUS || kind == Tokens.MINUS_MINUS;
        if (kind == Tokens.SQUARE) {
          if (deeper(depth)) {
            add(LEFT, sign, 0, 0);
            expression(depth + 1);
            expect(Tokens.SQUARE_END);
            add(INDEX, sign, 0, 0);
          }
        } else if (more) {
          advance();
          add(BEHIND, sign, 0, 0);
        }
      }
    }

    private void primary(int depth) {
      int token = position;
      switch (kind) {
        case Tokens.NUMBER:
        case Tokens.STRING:
          add(kind == Tokens.NUMBER ? NUMBER : STRING, token, 0, 0);
          advance();
          break;
        case Tokens.NAME:
          advance();
          if (kind == Tokens.ROUND) {
            call(token, depth);
          } else {
            add(NAME, token, 0, 0);
          }
          break;
        case Tokens.ROUND:
          if (deeper(depth)) {
            expression(depth + 1);
            expect(Tokens.ROUND_END);
          }
          break;
        default:
          fail();
          break;
      }
    }

    private void call(int name, int depth) {
      if (!deeper(depth)) {
        return;
      }
      add(CALLEE, name, 0, 0);
      boolean more = kind != Tokens.ROUND_END;
      for (int n = tokens.count; n > 0 && more; n--) {
        expression(depth + 1);
        add(ARGUMENT, name, 0, 0);
        more = accept(Tokens.COMMA);
      }
      expect(Tokens.ROUND_END);
      add(CALL, name, 0, 0);
    }
  }

  /** The instructions of all objects, one behind the other, and how one is told from its words. */
  private static final class Code {
    private static final int PUSH = 1;
    private static final int POP = 2;
    /** Pushes a cell of an object's own data. */
    private static final int DATA = 3;
    /** Pushes, reads, writes or steps the variable of a declaration. */
    private static final int OUTER = 4;
    private static final int LOAD_OUTER = 5;
    private static final int STORE_OUTER = 6;
    private static final int STEP_OUTER = 7;
    /** The same for a local without a cell, and TO_FRAME later for one with a cell. */
    private static final int LOAD_LOCAL = 8;
    private static final int STORE_LOCAL = 9;
    private static final int STEP_LOCAL = 10;
    private static final int LOAD_FRAME = 11;
    private static final int STORE_FRAME = 12;
    private static final int STEP_FRAME = 13;
    /** These are of locals with cells alone. */
    private static final int FRAME = 14;
    private static final int CLEAR = 15;
    private static final int PUT = 16;
    private static final int SET = 17;
    /** The same for the cell whose number is on the stack; FETCH leaves that number there. */
    private static final int LOAD = 18;
    private static final int STORE = 19;
    private static final int STEP = 20;
    private static final int FETCH = 21;
    private static final int NEGATE = 22;
    private static final int FLIP = 23;
    private static final int NOT = 24;
    private static final int TRUTH = 25;
    private static final int JUMP = 26;
    private static final int JUMP_ZERO = 27;
    private static final int JUMP_TRUE = 28;
    /** Jumps and leaves the answer of && or || on the stack, or takes away what is there. */
    private static final int AND_JUMP = 29;
    private static final int OR_JUMP = 30;
    private static final int TURN = 31;
    private static final int CALL = 32;
    private static final int RETURN = 33;
    /** From here on an instruction has the number of its sign among the tokens. */
    private static final int FIRST_SIGN = Tokens.SHL;
    /** Comparisons without sign stand so far behind those with it. */
    private static final int TO_UNSIGNED = 4;
    private static final int BELOW = Tokens.LESS + TO_UNSIGNED;
    private static final int ABOVE = Tokens.MORE + TO_UNSIGNED;
    private static final int NOT_ABOVE = Tokens.NOT_MORE + TO_UNSIGNED;
    private static final int NOT_BELOW = Tokens.NOT_LESS + TO_UNSIGNED;

    private static final int TO_FRAME = LOAD_FRAME - LOAD_LOCAL;

    /** How many words an instruction has; 0 is none. */
    private static final int[] LENGTHS = {
      0, 2, 1, 3, 2, 2, 2, 4, 2, 2, 4, 2, 2, 4, 2, 3, 3, 4, 2, 2, 4, 2, 1, 1, 1, 1, 2, 2, 2, 2, 2,
      2, 3, 1, 0, 0, 0, 0, 0, 0, 0, 1, 1, 1, 1, 1, 2, 2, 1, 1, 1, 1, 1, 1, 1, 1, 1, 1, 1, 1, 1
    };

    /** No byte of a text makes more than four words: a string that fills a local array. */
    private static final int MOST_WORDS = 4 * MOST_FED;
    private static final int LONGEST = 4;
    /** A function's cells, locals, parameters, and those of its parameters that have cells. */
    private static final int HEADER = 4;
    private static final int MOST_THREADED = 100;

    private final int[] words = new int[MOST_WORDS + 64];
    private int length = 0;

    private int emit(int op, int a, int b, int c) {
      int start = length;
      if (start >= 0 && start < words.length - LONGEST) {
        words[start] = op;
        words[start + 1] = a;
        words[start + 2] = b;
        words[start + 3] = c;
        length = start + (op >= 0 && op < LENGTHS.length ? LENGTHS[op] : 0);
      }
      return start;
    }

    private int header() {
      int start = length;
      length += start < words.length - HEADER ? HEADER : 0;
      return start;
    }

    private void cut(int start) {
      length = Math.min(start, length);
    }

    /** Points a chain of jumps, each of which holds the one before it, to a place; -1 ends it. */
    private void aim(int chain, int target) {
      int jump = chain;
      for (int n = length; n > 0 && jump >= 0; n--) {
        int before = at(words, jump + 1);
        set(words, jump + 1, target);
        jump = before;
      }
    }

    /** Gives the locals of a function's instructions their places: cells of the frame, or none. */
    private void settle(int from, int[] places) {
      int i = from;
      for (int n = length; n > 0 && i < length; n--) {
        int op = at(words, i);
        int place = at(places, at(words, i + 1));
        if (op >= LOAD_LOCAL && op <= STEP_LOCAL && place >= 0) {
          set(words, i, op + TO_FRAME);
          set(words, i + 1, place);
        } else if (op >= FRAME && op <= SET) {
          set(words, i + 1, place);
        }
        i += Math.max(at(LENGTHS, op), 1);
      }
    }

    /** Lets jumps to jumps go to the end of their way at once. */
    private void thread(int from) {
      int i = from;
      for (int n = length; n > 0 && i < length; n--) {
        int op = at(words, i);
        if (op >= JUMP && op <= JUMP_TRUE) {
          int target = at(words, i + 1);
          for (int k = 0; k < MOST_THREADED && at(words, target) == JUMP; k++) {
            target = at(words, target + 1);
          }
          set(words, i + 1, target);
        }
        i += Math.max(at(LENGTHS, op), 1);
      }
    }
  }

  /** The objects, numbered from 1, a row each; the library is kept as object 0. */
  private static final class Store {
    private static final int FUNCTION = 1;
    private static final int IS_STATIC = 2;
    private static final int DEFINED = 4;
    /** It stands in an expression or initial. */
    private static final int MENTIONED = 8;

    private static final String LIBRARY = "get put print stop ";
    private static final int GET = 0;
    private static final int PUT = 1;
    private static final int PRINT = 2;
    private static final int STOP = 3;
    /** Of the library's functions. */
    private static final int ONE_INT = 1 << 24;

    /** What an initial is counted from: nothing, the own data, or else a declaration. */
    private static final int NO_BASE = -2;
    private static final int OWN_DATA = -1;

    private static final int MOST_DECLARATIONS = (MOST_OBJECTS + 1) * MOST_NAMES;

    private final Code code;
    private int declared = 0;
    private final int[] flags = new int[MOST_DECLARATIONS];
    private final int[] types = new int[MOST_DECLARATIONS];
    /** A function's signature; an array's size (0 without one), and -1 of what is no array. */
    private final int[] extents = new int[MOST_DECLARATIONS];
    /** A variable's first cell among the object's data; where a function's header stands. */
    private final int[] values = new int[MOST_DECLARATIONS];
    private final int[] nameEnds = new int[MOST_DECLARATIONS];
    private int named = 0;
    private final byte[] names = new byte[MOST_FED + 64];
    private int initials = 0;
    private final int[] initialCells = new int[MOST_FED];
    private final int[] initialBases = new int[MOST_FED];
    private final int[] initialValues = new int[MOST_FED];
    private int objects = 0;
    private final int[] declarationEnds = new int[MOST_OBJECTS + 1];
    private final int[] initialEnds = new int[MOST_OBJECTS + 1];
    private final int[] codeEnds = new int[MOST_OBJECTS + 1];
    private final int[] dataCells = new int[MOST_OBJECTS + 1];

    private Store(Code code) {
      this.code = code;
      for (int i = 0; i < LIBRARY.length(); i++) {
        if (LIBRARY.charAt(i) != ' ') {
          names[named] = (byte) LIBRARY.charAt(i);
          named++;
        } else {
          flags[declared] = FUNCTION | DEFINED;
          types[declared] = declared == GET ? 0 : VOID;
          extents[declared] = declared == GET ? 0 : ONE_INT;
          values[declared] = -1 - declared;
          nameEnds[declared] = named;
          declared++;
        }
      }
      declarationEnds[0] = declared;
    }

    /** A signature is a number of parameters above three bits for each one's stars. */
    private static int parameters(int signature) {
      return signature >>> 24;
    }

    private static int parameter(int signature, int i) {
      return signature >>> 3 * i & 7;
    }

    private static int withParameter(int signature, int type) {
      return signature + (1 << 24) | type << 3 * parameters(signature);
    }

    private boolean has(int o) {
      return o >= 1 && o <= objects;
    }

    private boolean is(int d, int flag) {
      return (at(flags, d) & flag) != 0;
    }

    /** The object among whose instructions a word stands, or 0. */
    private int objectAt(int word) {
      for (int o = 1; o <= objects && word >= 0; o++) {
        if (word < at(codeEnds, o)) {
          return o;
        }
      }
      return 0;
    }

    private int firstOf(int o) {
      return o <= 0 ? 0 : at(declarationEnds, o - 1);
    }

    private int symbolsOf(int o) {
      int n = 0;
      for (int d = firstOf(o); d < at(declarationEnds, o); d++) {
        n += is(d, IS_STATIC) ? 0 : 1;
      }
      return n;
    }

    /** The declaration of a symbol, or -1. */
    private int symbolAt(int o, int s) {
      int left = has(o) && s >= 0 ? s : -1;
      for (int d = firstOf(o); left >= 0 && d < at(declarationEnds, o); d++) {
        if (!is(d, IS_STATIC)) {
          if (left == 0) {
            return d;
          }
          left--;
        }
      }
      return -1;
    }

    private int nameStart(int d) {
      return at(nameEnds, d - 1);
    }

    private int nameByte(int d, int i) {
      int length = d < 0 ? 0 : at(nameEnds, d) - nameStart(d);
      int k = nameStart(d) + i;
      return i >= 0 && i < length && k < names.length ? names[k] & 255 : -1;
    }

    private boolean isNamed(int d, byte[] text, int from, int length) {
      int start = at(nameEnds, d - 1);
      if (at(nameEnds, d) - start != length) {
        return false;
      }
      for (int i = 0; i < length; i++) {
        if (start + i >= names.length || from < 0 || from + i >= text.length
            || names[start + i] != text[from + i]) {
          return false;
        }
      }
      return true;
    }

    /** One more declaration of the unit that is compiled, or -1. */
    private int declare(byte[] text, int from, int length) {
      int d = declared;
      if (d >= nameEnds.length || from < 0 || length < 0 || from + length > text.length
          || named + length > names.length) {
        return -1;
      }
      System.arraycopy(text, from, names, named, length);
      named += length;
      nameEnds[d] = named;
      declared++;
      set(flags, d, 0);
      set(values, d, 0);
      return d;
    }

    private void mark(int d, int flag) {
      set(flags, d, at(flags, d) | flag);
    }

    private void addInitial(int cell, int base, int value) {
      set(initialCells, initials, cell);
      set(initialBases, initials, base);
      set(initialValues, initials, value);
      initials = Math.min(initials + 1, MOST_FED);
    }

    /** Makes what was declared since the latest object the next one: its number. */
    private int keep(int data) {
      objects++;
      set(declarationEnds, objects, declared);
      set(initialEnds, objects, initials);
      set(codeEnds, objects, code.length);
      set(dataCells, objects, data);
      return objects;
    }

    private void forget() {
      declared = at(declarationEnds, objects);
      named = nameStart(declared);
      initials = at(initialEnds, objects);
      code.cut(at(codeEnds, objects));
    }
  }

  /** The unit that is compiled: what its names mean, its locals and data, and its first fault. */
  private static final class Unit {
    private static final int MEANS_NOTHING = 2;
    private static final int TOO_MUCH = 4;
    private static final int MOST_SCOPES = 2 * MOST_DEEP + 2;

    private final Tokens tokens;
    private final Store store;
    private int level;
    private int fault;
    private int faultToken;
    private int data;
    /** The function in whose body it is, or -1. */
    private int function;
    private int outers;
    private final int[] outerTokens = new int[MOST_NAMES];
    /** Where a function is called first, or -1. */
    private final int[] callTokens = new int[MOST_NAMES];
    private int locals;
    private final int[] localTokens = new int[MOST_NAMES];
    private final int[] localTypes = new int[MOST_NAMES];
    /** An array's size, or -1. */
    private final int[] localSizes = new int[MOST_NAMES];
    /** 1 of a local that has cells. */
    private final int[] localCells = new int[MOST_NAMES];
    private int seen;
    /** The locals that are in a scope now, the nearest last. */
    private final int[] seenLocals = new int[MOST_NAMES];
    private int scopes;
    private final int[] scopeStarts = new int[MOST_SCOPES];

    private Unit(Tokens tokens, Store store) {
      this.tokens = tokens;
      this.store = store;
    }

    private void begin(int newLevel) {
      level = newLevel;
      fault = 0;
      faultToken = -1;
      data = 0;
      outers = 0;
      leave();
    }

    /** What is told first stays. */
    private void fail(int kind, int token) {
      if (fault == 0) {
        fault = kind;
        faultToken = token;
      }
    }

    private void enter(int d) {
      leave();
      function = d;
      open();
    }

    private void leave() {
      function = -1;
      locals = 0;
      seen = 0;
      scopes = 0;
    }

    private void open() {
      set(scopeStarts, scopes, seen);
      scopes++;
    }

    private void close() {
      scopes--;
      seen = at(scopeStarts, scopes);
    }

    /** The nearest local with a token's name among those from a scope's start on, or -1. */
    private int localFrom(int start, int token) {
      for (int i = seen - 1; i >= start; i--) {
        int k = at(seenLocals, i);
        if (tokens.sameName(at(localTokens, k), token)) {
          return k;
        }
      }
      return -1;
    }

    private int scopeStart() {
      return at(scopeStarts, scopes - 1);
    }

    private void declareLocal(int token, int type, int size) {
      int k = locals;
      set(localTokens, k, token);
      set(localTypes, k, type);
      set(localSizes, k, size);
      set(localCells, k, size < 0 ? 0 : 1);
      set(seenLocals, seen, k);
      locals++;
      seen++;
    }

    /** The declaration outside of functions with a token's name, or -1. */
    private int outerOf(int token) {
      for (int i = 0; i < outers; i++) {
        if (tokens.sameName(at(outerTokens, i), token)) {
          return store.declared - outers + i;
        }
      }
      return -1;
    }

    private int declareOuter(int token) {
      set(outerTokens, outers, token);
      set(callTokens, outers, -1);
      outers++;
      return store.declare(tokens.text, at(tokens.places, token), at(tokens.values, token));
    }

    private void mentionCall(int d, int token) {
      int i = d - (store.declared - outers);
      store.mark(d, Store.MENTIONED);
      if (at(callTokens, i) < 0) {
        set(callTokens, i, token);
      }
    }

    /** A static function without a body that is called is told behind all else. */
    private void finish() {
      int first = -1;
      for (int i = 0; i < outers; i++) {
        int d = store.declared - outers + i;
        int token = at(callTokens, i);
        boolean lacks = store.is(d, Store.IS_STATIC) && !store.is(d, Store.DEFINED);
        if (lacks && token >= 0 && (first < 0 || token < first)) {
          first = token;
        }
      }
      if (first >= 0) {
        fail(MEANS_NOTHING, first);
      }
    }
  }

  /** An expression that was looked at, while its operator is still to come. */
  private static final class Operand {
    private static final int VALUE = 0;
    /** Places that the code has not read yet; of a cell its number is on the stack. */
    private static final int LOCAL = 1;
    private static final int OUTER = 2;
    private static final int CELL = 3;
    private static final int CALLEE = 4;

    private static final int NO_FORM = 0;
    private static final int CONSTANT = 1;
    private static final int ADDRESS = 2;

    private int kind;
    private int type;
    private int height;
    /** Whether it is the NUMBER 0. */
    private boolean zero;
    /** The local, or the declaration. */
    private int index;
    /** The line of the operator that names a cell. */
    private int line;
    /** What it may be in an initial outside of functions: a value, or one counted from a base. */
    private int form;
    private int base;
    private int value;
    /** Where its instructions begin, and a jump in them that is still to be aimed. */
    private int start;
    private int jump;
    private int arguments;
    private boolean misfit;

    private Operand() {
    }

    private void reset(int newStart) {
      kind = VALUE;
      type = 0;
      height = 1;
      zero = false;
      index = -1;
      line = 0;
      form = NO_FORM;
      base = Store.NO_BASE;
      value = 0;
      start = newStart;
      jump = -1;
      arguments = 0;
      misfit = false;
    }

    private boolean isPlace() {
      return kind == LOCAL || kind == OUTER || kind == CELL;
    }

    private boolean isConstant() {
      return form == CONSTANT;
    }

    /** Whether it may be put where a value of a type is wanted. */
    private boolean fits(int wanted) {
      return type == wanted && wanted != VOID || wanted > 0 && zero;
    }

    /** Whether it may stand behind = outside of functions. */
    private boolean isInitial() {
      return form != NO_FORM;
    }

    private void become(int newType, int newForm) {
      kind = VALUE;
      type = newType;
      form = newForm;
      zero = false;
    }
  }

  /** Looks at the steps of expressions, and makes their instructions. */
  private static final class Expressions {
    private static final int MOST_OPERANDS = 20 * MOST_DEEP;
    private static final int MOST_STARS = 9;
    /** No type. */
    private static final int UNFIT = -2;

    private final Grammar grammar;
    private final Tokens tokens;
    private final Unit unit;
    private final Store store;
    private final Code code;
    private final Operand[] operands = new Operand[MOST_OPERANDS];
    /** Stands where no operand is. */
    private final Operand none = new Operand();
    private int count = 0;

    private Expressions(Grammar grammar, Unit unit, Code code) {
      this.grammar = grammar;
      this.tokens = unit.tokens;
      this.unit = unit;
      this.store = unit.store;
      this.code = code;
      for (int i = 0; i < operands.length; i++) {
        operands[i] = new Operand();
      }
    }

    private void take(int step) {
      int token = at(grammar.ats, step);
      switch (at(grammar.acts, step)) {
        case Grammar.NUMBER:
          number(token);
          break;
        case Grammar.STRING:
          string(token);
          break;
        case Grammar.NAME:
          named(token);
          break;
        case Grammar.CALLEE:
          callee(token);
          break;
        case Grammar.ARGUMENT:
          argument();
          break;
        case Grammar.CALL:
          call(token);
          break;
        case Grammar.LEFT:
          left(token);
          break;
        case Grammar.BINARY:
          binary(token);
          break;
        case Grammar.ASSIGN:
          assign(token);
          break;
        case Grammar.INDEX:
          index(token);
          break;
        case Grammar.UNARY:
          unary(token);
          break;
        case Grammar.CAST:
          cast(token, at(grammar.firsts, step));
          break;
        case Grammar.BEHIND:
          step(top(), token, true);
          break;
        case Grammar.QUESTION:
          top().jump = unless(loaded(top()), -1);
          break;
        case Grammar.COLON:
          colon();
          break;
        default:
          choice(token);
          break;
      }
    }

    private int kindOf(int token) {
      return at(tokens.kinds, token);
    }

    private int lineOf(int token) {
      return at(tokens.lines, token);
    }

    private Operand push() {
      Operand o = count >= 0 && count < operands.length ? operands[count] : none;
      o.reset(code.length);
      count++;
      return o;
    }

    private Operand top() {
      return count > 0 && count <= operands.length ? operands[count - 1] : none;
    }

    /** Takes away the latest operand, whose value the instructions leave on the stack. */
    private Operand pop() {
      Operand o = loaded(top());
      count -= count > 0 ? 1 : 0;
      return o;
    }

    /** Reads an operand that is a place. */
    private Operand loaded(Operand o) {
      if (o.isPlace()) {
        if (o.kind == Operand.CELL) {
          code.emit(Code.LOAD, o.line, 0, 0);
        } else {
          code.emit(o.kind == Operand.LOCAL ? Code.LOAD_LOCAL : Code.LOAD_OUTER, o.index, 0, 0);
        }
        o.kind = Operand.VALUE;
      }
      return o;
    }

    /** Gives an expression its height behind all other faults of its operator. */
    private void raise(Operand o, int height, int token) {
      o.height = height;
      if (height > MOST_HIGH) {
        unit.fail(Unit.TOO_MUCH, token);
      }
    }

    private void refuse(int token) {
      unit.fail(Unit.MEANS_NOTHING, token);
    }

    private void number(int token) {
      Operand o = push();
      o.form = Operand.CONSTANT;
      o.value = at(tokens.values, token);
      o.zero = o.value == 0;
      code.emit(Code.PUSH, o.value, 0, 0);
    }

    private void string(int token) {
      int codes = tokens.readCodes(token);
      int cell = unit.data;
      if (cell + codes + 1 > MOST_DATA) {
        unit.fail(Unit.TOO_MUCH, token);
      }
      unit.data += codes + 1;
      for (int i = 0; i < codes; i++) {
        store.addInitial(cell + i, Store.NO_BASE, at(tokens.codes, i));
      }
      Operand o = push();
      o.become(1, Operand.ADDRESS);
      o.base = Store.OWN_DATA;
      o.value = cell;
      code.emit(Code.DATA, store.objects + 1, cell, 0);
    }

    private void named(int token) {
      int local = unit.localFrom(0, token);
      int outer = local < 0 ? unit.outerOf(token) : -1;
      if (local < 0 && (outer < 0 || store.is(outer, Store.FUNCTION))) {
        refuse(token);
        return;
      }
      Operand o = push();
      o.index = Math.max(local, outer);
      o.kind = local >= 0 ? Operand.LOCAL : Operand.OUTER;
      o.type = local >= 0 ? at(unit.localTypes, local) : at(store.types, outer);
      store.mark(outer, Store.MENTIONED);
      if (at(local >= 0 ? unit.localSizes : store.extents, o.index) >= 0) {
        address(o);
      }
    }

    /** Makes a place the pointer to it. */
    private void address(Operand o) {
      boolean outer = o.kind == Operand.OUTER;
      if (o.kind == Operand.LOCAL) {
        set(unit.localCells, o.index, 1);
        code.emit(Code.FRAME, o.index, 0, 0);
      } else if (outer) {
        code.emit(Code.OUTER, o.index, 0, 0);
      }
      o.become(o.type + 1, outer ? Operand.ADDRESS : Operand.NO_FORM);
      o.base = o.index;
      o.value = 0;
    }

    private void callee(int token) {
      int d = unit.localFrom(0, token) < 0 ? unit.outerOf(token) : -1;
      if (d < 0 || !store.is(d, Store.FUNCTION)) {
        refuse(token);
        return;
      }
      unit.mentionCall(d, token);
      Operand o = push();
      o.kind = Operand.CALLEE;
      o.index = d;
      o.type = at(store.types, d);
      o.height = 0;
    }

    private void argument() {
      Operand given = pop();
      Operand callee = top();
      int signature = at(store.extents, callee.index);
      int i = callee.arguments;
      if (i >= Store.parameters(signature) || !given.fits(Store.parameter(signature, i))) {
        callee.misfit = true;
      }
      callee.arguments++;
      callee.height = Math.max(callee.height, given.height);
    }

    private void call(int token) {
      Operand o = top();
      if (o.misfit || o.arguments != Store.parameters(at(store.extents, o.index))) {
        refuse(token);
      }
      code.emit(Code.CALL, o.index, lineOf(token), 0);
      o.become(o.type, Operand.NO_FORM);
      raise(o, o.height + 1, token);
    }

    /** A left side is read before the right one is worked out; of an assignment as it asks. */
    private void left(int token) {
      int sign = kindOf(token);
      Operand o = top();
      if (sign > Tokens.ASSIGN && sign <= Tokens.XOR_ASSIGN) {
        fetch(o, lineOf(token));
      } else if (sign != Tokens.ASSIGN) {
        loaded(o);
      }
      if (sign == Tokens.AND_THEN || sign == Tokens.OR_ELSE) {
        o.jump = code.emit(sign == Tokens.AND_THEN ? Code.AND_JUMP : Code.OR_JUMP, -1, 0, 0);
      }
    }

    private void fetch(Operand o, int line) {
      if (o.kind == Operand.CELL) {
        code.emit(Code.FETCH, line, 0, 0);
      } else if (o.isPlace()) {
        code.emit(o.kind == Operand.LOCAL ? Code.LOAD_LOCAL : Code.LOAD_OUTER, o.index, 0, 0);
      }
    }

    private void binary(int token) {
      int sign = kindOf(token);
      Operand right = pop();
      Operand left = top();
      int type = typeOf(sign, left, right);
      if (type == UNFIT) {
        refuse(token);
      }
      if (sign == Tokens.AND_THEN || sign == Tokens.OR_ELSE) {
        code.emit(Code.TRUTH, 0, 0, 0);
        code.aim(left.jump, code.length);
      } else {
        operate(sign, left.type > 0, lineOf(token));
      }
      combine(sign, left, right);
      left.become(type, left.form);
      fold(left);
      raise(left, 1 + Math.max(left.height, right.height), token);
    }

    private static int typeOf(int sign, Operand a, Operand b) {
      if (a.type == VOID || b.type == VOID) {
        return UNFIT;
      }
      boolean same = a.type == b.type;
      switch (sign) {
        case Tokens.OR_ELSE:
        case Tokens.AND_THEN:
          return 0;
        case Tokens.EQUAL:
        case Tokens.UNEQUAL:
          return a.fits(b.type) || b.fits(a.type) ? 0 : UNFIT;
        case Tokens.LESS:
        case Tokens.MORE:
        case Tokens.NOT_MORE:
        case Tokens.NOT_LESS:
          return same ? 0 : UNFIT;
        case Tokens.ADD:
          return b.type == 0 ? a.type : a.type == 0 ? b.type : UNFIT;
        case Tokens.SUB:
          return b.type == 0 ? a.type : same ? 0 : UNFIT;
        default:
          return same && a.type == 0 ? 0 : UNFIT;
      }
    }

    private void operate(int sign, boolean pointers, int line) {
      boolean unsigned = pointers && sign >= Tokens.LESS && sign <= Tokens.NOT_LESS;
      code.emit(unsigned ? sign + Code.TO_UNSIGNED : sign, line, 0, 0);
    }

    /** Works out a constant, or a pointer that an initial may be, from two sides. */
    private static void combine(int sign, Operand left, Operand right) {
      boolean noQuotient = (sign == Tokens.DIV || sign == Tokens.REM) && right.value == 0;
      boolean moves = sign == Tokens.ADD || sign == Tokens.SUB;
      if (left.isConstant() && right.isConstant() && sign < Tokens.OR_ELSE && !noQuotient) {
        left.value = Machine.worked(sign, left.value, right.value);
      } else if (moves && left.form == Operand.ADDRESS && right.isConstant()) {
        left.value = Machine.worked(sign, left.value, right.value);
      } else if (sign == Tokens.ADD && left.isConstant() && right.form == Operand.ADDRESS) {
        left.form = Operand.ADDRESS;
        left.base = right.base;
        left.value += right.value;
      } else {
        left.form = Operand.NO_FORM;
      }
    }

    /** Above level 0 a constant is one instruction. */
    private void fold(Operand o) {
      if (unit.level > 0 && o.isConstant()) {
        code.cut(o.start);
        code.emit(Code.PUSH, o.value, 0, 0);
      }
    }

    private void assign(int token) {
      int sign = kindOf(token);
      Operand right = pop();
      Operand left = top();
      boolean moves = sign == Tokens.ADD_ASSIGN || sign == Tokens.SUB_ASSIGN;
      boolean fits = sign == Tokens.ASSIGN ? right.fits(left.type)
          : right.type == 0 && (moves || left.type == 0);
      if (!left.isPlace() || !fits) {
        refuse(token);
      }
      if (sign != Tokens.ASSIGN) {
        operate(sign + Tokens.TO_OPERATOR, false, lineOf(token));
      }
      if (left.kind == Operand.CELL) {
        code.emit(Code.STORE, lineOf(token), 0, 0);
      } else {
        code.emit(left.kind == Operand.LOCAL ? Code.STORE_LOCAL : Code.STORE_OUTER, left.index, 0, 0);
      }
      left.become(left.type, Operand.NO_FORM);
      raise(left, 1 + Math.max(left.height, right.height), token);
    }

    private void index(int token) {
      Operand right = pop();
      Operand left = top();
      if (right.type != 0) {
        refuse(token);
      }
      code.emit(Tokens.ADD, 0, 0, 0);
      pointed(left, token);
      raise(left, 1 + Math.max(left.height, right.height), token);
    }

    /** Makes a pointer the cell that it tells. */
    private void pointed(Operand o, int token) {
      if (o.type < 1) {
        refuse(token);
      }
      o.become(o.type - 1, Operand.NO_FORM);
      o.kind = Operand.CELL;
      o.line = lineOf(token);
    }

    private void unary(int token) {
      int sign = kindOf(token);
      Operand o = top();
      if (sign == Tokens.PLUS_PLUS || sign == Tokens.MINUS_MINUS) {
        step(o, token, false);
        return;
      }
      if (sign == Tokens.AND) {
        if (!o.isPlace() || o.type >= MOST_STARS) {
          refuse(token);
        }
        address(o);
      } else if (sign == Tokens.MUL) {
        pointed(loaded(o), token);
      } else {
        invert(loaded(o), sign, token);
      }
      raise(o, 1 + o.height, token);
    }

    /** The signs - ~ ! before a value. */
    private void invert(Operand o, int sign, int token) {
      if (sign == Tokens.NOT ? o.type == VOID : o.type != 0) {
        refuse(token);
      }
      int op = sign == Tokens.NOT ? Code.NOT : sign == Tokens.FLIP ? Code.FLIP : Code.NEGATE;
      code.emit(op, 0, 0, 0);
      o.value = Machine.inverted(op, o.value);
      o.become(0, o.isConstant() ? Operand.CONSTANT : Operand.NO_FORM);
      fold(o);
    }

    /** The signs ++ and --, before a place or behind it. */
    private void step(Operand o, int token, boolean behind) {
      if (!o.isPlace()) {
        refuse(token);
      }
      int by = kindOf(token) == Tokens.PLUS_PLUS ? 1 : -1;
      int back = behind ? by : 0;
      if (o.kind == Operand.CELL) {
        code.emit(Code.STEP, lineOf(token), by, back);
      } else {
        code.emit(o.kind == Operand.LOCAL ? Code.STEP_LOCAL : Code.STEP_OUTER, o.index, by, back);
      }
      o.become(o.type, Operand.NO_FORM);
      raise(o, 1 + o.height, token);
    }

    private void cast(int token, int type) {
      Operand o = loaded(top());
      if (o.type == VOID) {
        refuse(token);
      }
      o.become(type, Operand.NO_FORM);
      raise(o, 1 + o.height, token);
    }

    /** Between the two of ? : the first jumps over the second. */
    private void colon() {
      loaded(top());
      Operand first = count > 1 && count <= operands.length ? operands[count - 2] : none;
      int over = code.emit(Code.JUMP, -1, 0, 0);
      code.aim(first.jump, code.length);
      first.jump = over;
    }

    private void choice(int token) {
      Operand last = pop();
      Operand middle = pop();
      Operand first = top();
      code.aim(first.jump, code.length);
      if (first.type == VOID || !last.fits(middle.type) && !middle.fits(last.type)) {
        refuse(token);
      }
      int height = Math.max(first.height, Math.max(middle.height, last.height));
      first.become(Math.max(middle.type, last.type), Operand.NO_FORM);
      raise(first, 1 + height, token);
    }

    /** A jump over what comes, added to a chain of them, unless a condition holds. */
    private int unless(Operand condition, int chain) {
      if (unit.level > 2 && condition.isConstant()) {
        code.cut(condition.start);
        return condition.value != 0 ? chain : code.emit(Code.JUMP, chain, 0, 0);
      }
      return code.emit(Code.JUMP_ZERO, chain, 0, 0);
    }
  }

  /** Looks at the steps of functions and variables. */
  private static final class Declarations {
    /** The size of an array where none is told. */
    private static final int MISSING = -1;
    private static final int NO_ARRAY = -1;

    private final Grammar grammar;
    private final Tokens tokens;
    private final Unit unit;
    private final Store store;
    private final Code code;
    private final Expressions expressions;
    /** The [ of the variable that comes, or -1, and its size. */
    private int square;
    private int size;
    private int given;
    /** The variable whose initial comes: a local or else a declaration; its size or NO_ARRAY. */
    private boolean isLocal;
    private int variable;
    private int type;
    private int extent;
    private boolean isExtern;
    private int firstCell;
    private int items;
    private boolean misfit;
    private final int[] cellPlaces = new int[MOST_NAMES];

    private Declarations(Grammar grammar, Unit unit, Expressions expressions) {
      this.grammar = grammar;
      this.tokens = unit.tokens;
      this.unit = unit;
      this.store = unit.store;
      this.code = expressions.code;
      this.expressions = expressions;
    }

    private void begin() {
      square = -1;
      given = 0;
    }

    private void take(int act, int step) {
      int token = at(grammar.ats, step);
      int first = at(grammar.firsts, step);
      int second = at(grammar.seconds, step);
      switch (act) {
        case Grammar.BRACKET:
          square = token;
          size = first != 0 ? given : second > 0 ? second : MISSING;
          break;
        case Grammar.VARIABLE:
          variable(token, first, second);
          break;
        case Grammar.ITEM:
          item();
          break;
        case Grammar.FILL:
          fill(token);
          break;
        case Grammar.INITIAL:
          initial(token, first);
          break;
        case Grammar.FUNCTION:
          function(token, first, second);
          break;
        case Grammar.PARAMETER:
          parameter(token, first);
          break;
        default:
          functionEnd();
          break;
      }
    }

    private void variable(int token, int newType, int second) {
      int linkage = second & Grammar.LINKAGE;
      boolean set = (second & Grammar.WITH_INITIAL) != 0;
      type = newType;
      extent = square < 0 ? NO_ARRAY : size >= 1 && size <= MOST_SIZE ? size : 0;
      items = 0;
      misfit = false;
      isLocal = unit.function >= 0;
      isExtern = linkage == Grammar.EXTERN_LINKAGE;
      if (isLocal) {
        local(token, set);
      } else {
        outer(token, linkage, set);
      }
      square = -1;
    }

    private void checkSquare(boolean mayLack) {
      if (square >= 0 && (size == MISSING ? !mayLack : size < 1)) {
        unit.fail(Unit.MEANS_NOTHING, square);
      }
      if (square >= 0 && size > MOST_SIZE) {
        unit.fail(Unit.TOO_MUCH, square);
      }
    }

    private void local(int token, boolean set) {
      if (unit.localFrom(unit.scopeStart(), token) >= 0) {
        unit.fail(Unit.MEANS_NOTHING, token);
      }
      if (unit.locals >= MOST_NAMES) {
        unit.fail(Unit.TOO_MUCH, token);
      }
      checkSquare(set);
      if (unit.fault != 0) {
        return;
      }
      variable = unit.locals;
      unit.declareLocal(token, type, extent);
      if (extent == NO_ARRAY) {
        code.emit(Code.PUSH, 0, 0, 0);
        storeLocal();
      } else {
        code.emit(Code.CLEAR, variable, extent, 0);
      }
    }

    private void storeLocal() {
      code.emit(Code.STORE_LOCAL, variable, 0, 0);
      code.emit(Code.POP, 0, 0, 0);
    }

    private void outer(int token, int linkage, boolean set) {
      int d = unit.outerOf(token);
      checkOuter(token, d, d < 0 || joins(d, linkage));
      checkSquare(set || isExtern);
      int cells = isExtern ? 0 : extent == NO_ARRAY ? 1 : extent;
      if (unit.data + cells > MOST_DATA) {
        unit.fail(Unit.TOO_MUCH, token);
      }
      if (unit.fault != 0) {
        return;
      }
      variable = d < 0 ? unit.declareOuter(token) : d;
      set(store.types, variable, type);
      if (d < 0 || extent > 0) {
        set(store.extents, variable, extent);
      }
      if (linkage == Grammar.STATIC_LINKAGE) {
        store.mark(variable, Store.IS_STATIC);
      }
      if (!isExtern) {
        store.mark(variable, Store.DEFINED);
        set(store.values, variable, unit.data);
      }
      firstCell = unit.data;
      unit.data += cells;
    }

    /** A name outside of functions: whether it may be declared so, then whether it is too many. */
    private void checkOuter(int token, int d, boolean may) {
      if (!may) {
        unit.fail(Unit.MEANS_NOTHING, token);
      }
      if (d < 0 && unit.outers >= MOST_NAMES) {
        unit.fail(Unit.TOO_MUCH, token);
      }
    }

    /** Whether the variable that comes may be declared once more. */
    private boolean joins(int d, int linkage) {
      int other = at(store.extents, d);
      boolean sameKind = !store.is(d, Store.FUNCTION) && at(store.types, d) == type
          && (other == NO_ARRAY) == (extent == NO_ARRAY);
      boolean sameSize = other <= 0 || extent <= 0 || other == extent;
      boolean noStatic = linkage != Grammar.STATIC_LINKAGE && !store.is(d, Store.IS_STATIC);
      return sameKind && sameSize && noStatic && (isExtern || !store.is(d, Store.DEFINED));
    }

    private boolean suits(Operand o) {
      return o.fits(type) && (isLocal || o.isInitial());
    }

    private void item() {
      Operand o = expressions.pop();
      if (items >= extent || !suits(o)) {
        misfit = true;
      } else if (isLocal) {
        code.emit(Code.PUT, variable, items, 0);
      } else {
        putInitial(items, o);
      }
      items++;
    }

    private void putInitial(int i, Operand o) {
      code.cut(o.start);
      store.addInitial(firstCell + i, o.isConstant() ? Store.NO_BASE : o.base, o.value);
    }

    private void fill(int token) {
      int codes = tokens.readCodes(token);
      misfit = codes > extent;
      for (int i = 0; i < codes && !misfit; i++) {
        if (isLocal) {
          code.emit(Code.SET, variable, i, at(tokens.codes, i));
        } else {
          store.addInitial(firstCell + i, Store.NO_BASE, at(tokens.codes, i));
        }
      }
    }

    private void initial(int token, int behind) {
      if (behind == Grammar.LIST_BEHIND) {
        misfit = misfit || extent == NO_ARRAY;
      } else if (behind == Grammar.EXPRESSION_BEHIND) {
        Operand o = expressions.pop();
        misfit = extent != NO_ARRAY || !suits(o);
        if (isLocal) {
          storeLocal();
        } else {
          putInitial(0, o);
        }
      }
      if (misfit || isExtern) {
        unit.fail(Unit.MEANS_NOTHING, token);
      }
    }

    private void function(int token, int signature, int second) {
      int result = second / Grammar.RESULT_UNIT - 1;
      boolean isStatic = (second & Grammar.LINKAGE) == Grammar.STATIC_LINKAGE;
      boolean body = (second & Grammar.WITH_BODY) != 0;
      int d = unit.outerOf(token);
      boolean may = d < 0 || store.is(d, Store.FUNCTION) && at(store.types, d) == result
          && at(store.extents, d) == signature && store.is(d, Store.IS_STATIC) == isStatic
          && !(body && store.is(d, Store.DEFINED));
      checkOuter(token, d, may);
      if (unit.fault != 0) {
        return;
      }
      int function = d < 0 ? unit.declareOuter(token) : d;
      store.mark(function, isStatic ? Store.FUNCTION | Store.IS_STATIC : Store.FUNCTION);
      set(store.types, function, result);
      set(store.extents, function, signature);
      if (body) {
        store.mark(function, Store.DEFINED);
        set(store.values, function, code.header());
        unit.enter(function);
      }
    }

    private void parameter(int token, int parameterType) {
      if (at(tokens.kinds, token) != Tokens.NAME || unit.localFrom(0, token) >= 0) {
        unit.fail(Unit.MEANS_NOTHING, token);
      } else {
        unit.declareLocal(token, parameterType, NO_ARRAY);
      }
    }

    /** Now that it is known which locals have cells, these get their places in the frame. */
    private void functionEnd() {
      code.emit(Code.PUSH, 0, 0, 0);
      code.emit(Code.RETURN, 0, 0, 0);
      int header = at(store.values, unit.function);
      int parameters = Store.parameters(at(store.extents, unit.function));
      int cells = 0;
      int copied = 0;
      for (int k = 0; k < unit.locals; k++) {
        boolean placed = at(unit.localCells, k) != 0;
        set(cellPlaces, k, placed ? cells : -1);
        copied |= placed && k < parameters ? 1 << k : 0;
        cells += placed ? Math.max(at(unit.localSizes, k), 1) : 0;
      }
      set(code.words, header, cells);
      set(code.words, header + 1, unit.locals);
      set(code.words, header + 2, parameters);
      set(code.words, header + 3, copied);
      code.settle(header + Code.HEADER, cellPlaces);
      if (unit.level > 1) {
        code.thread(header + Code.HEADER);
      }
      unit.leave();
    }
  }

  /** Looks at the steps of a whole unit: those of statements here, the others further on. */
  private static final class Statements {
    private static final int MOST_OPEN = MOST_DEEP + 1;

    private final Grammar grammar;
    private final Unit unit;
    private final Code code;
    private final Expressions expressions;
    private final Declarations declarations;
    /** The ifs and loops around, the innermost last. */
    private int open;
    private final int[] loops = new int[MOST_OPEN];
    /** Where a loop goes on, the jumps out of it, and those to where continue leads. */
    private final int[] tops = new int[MOST_OPEN];
    private final int[] exits = new int[MOST_OPEN];
    private final int[] agains = new int[MOST_OPEN];
    /** Of a for: the jump to its body, and where its last expression stands. */
    private final int[] bodies = new int[MOST_OPEN];
    private final int[] lasts = new int[MOST_OPEN];

    private Statements(Grammar grammar, Unit unit, Declarations declarations) {
      this.grammar = grammar;
      this.unit = unit;
      this.code = declarations.code;
      this.expressions = declarations.expressions;
      this.declarations = declarations;
    }

    private void walk(int level) {
      unit.begin(level);
      declarations.begin();
      expressions.count = 0;
      open = 0;
      int step = 0;
      for (int n = grammar.count; n > 0 && step < grammar.count && unit.fault == 0; n--) {
        int act = at(grammar.acts, step);
        if (act < Grammar.FIRST_STATEMENT) {
          expressions.take(step);
        } else if (act < Grammar.FIRST_DECLARATION) {
          take(act, step);
        } else if (act != Grammar.SIZE) {
          declarations.take(act, step);
        } else {
          int end = at(grammar.firsts, step);
          declarations.given = constant(step + 1, end);
          step = Math.max(step, end);
        }
        step++;
      }
      unit.finish();
    }

    /** Works out a size, whose faults are not told: 0 if it is no constant, or below 1. */
    private int constant(int from, int to) {
      int start = code.length;
      for (int i = from; i < to && unit.fault == 0; i++) {
        expressions.take(i);
      }
      boolean right = unit.fault == 0;
      unit.fault = 0;
      code.cut(start);
      Operand o = expressions.top();
      expressions.count = 0;
      return right && o.isConstant() ? Math.max(o.value, 0) : 0;
    }

    private void take(int act, int step) {
      int token = at(grammar.ats, step);
      boolean given = at(grammar.firsts, step) != 0;
      switch (act) {
        case Grammar.OPEN:
          unit.open();
          break;
        case Grammar.CLOSE:
          unit.close();
          break;
        case Grammar.DISCARD:
          expressions.pop();
          code.emit(Code.POP, 0, 0, 0);
          break;
        case Grammar.IF:
        case Grammar.ELSE:
        case Grammar.IF_END:
          conditional(act, token);
          break;
        case Grammar.BREAK:
        case Grammar.CONTINUE:
          leave(token, act == Grammar.BREAK ? exits : agains);
          break;
        case Grammar.RETURN:
          giveBack(token, given);
          break;
        case Grammar.WHILE:
        case Grammar.WHILE_TEST:
        case Grammar.WHILE_END:
          whileLoop(act, token);
          break;
        case Grammar.DO:
        case Grammar.DO_AGAIN:
        case Grammar.DO_TEST:
          doLoop(act, token);
          break;
        default:
          forLoop(act, token, given);
          break;
      }
    }

    private void begin(boolean loop) {
      set(loops, open, loop ? 1 : 0);
      set(tops, open, code.length);
      set(exits, open, -1);
      set(agains, open, -1);
      open++;
    }

    private void finish() {
      open--;
      code.aim(at(exits, open), code.length);
    }

    /** The value that a condition leaves. */
    private Operand condition(int word) {
      Operand o = expressions.pop();
      if (o.type == VOID) {
        unit.fail(Unit.MEANS_NOTHING, word);
      }
      return o;
    }

    private void exitUnless(Operand o) {
      set(exits, open - 1, expressions.unless(o, at(exits, open - 1)));
    }

    private void turn(int word) {
      code.emit(Code.TURN, at(unit.tokens.lines, word), 0, 0);
    }

    private void jumpBack(int target) {
      code.emit(Code.JUMP, target, 0, 0);
    }

    private void conditional(int act, int word) {
      if (act == Grammar.IF) {
        Operand o = condition(word);
        begin(false);
        exitUnless(o);
      } else if (act == Grammar.ELSE) {
        int over = code.emit(Code.JUMP, -1, 0, 0);
        code.aim(at(exits, open - 1), code.length);
        set(exits, open - 1, over);
      } else {
        finish();
      }
    }

    private void leave(int word, int[] chains) {
      int loop = open - 1;
      for (; loop >= 0 && at(loops, loop) == 0; loop--) {
        // The ifs around do not matter.
      }
      if (loop < 0) {
        unit.fail(Unit.MEANS_NOTHING, word);
      } else {
        set(chains, loop, code.emit(Code.JUMP, at(chains, loop), 0, 0));
      }
    }

    private void giveBack(int word, boolean given) {
      int result = at(unit.store.types, unit.function);
      boolean fits = result == VOID;
      if (given) {
        fits = expressions.pop().fits(result);
      } else {
        code.emit(Code.PUSH, 0, 0, 0);
      }
      code.emit(Code.RETURN, 0, 0, 0);
      if (!fits) {
        unit.fail(Unit.MEANS_NOTHING, word);
      }
    }

    private void whileLoop(int act, int word) {
      if (act == Grammar.WHILE) {
        begin(true);
      } else if (act == Grammar.WHILE_TEST) {
        exitUnless(condition(word));
        turn(word);
      } else {
        code.aim(at(agains, open - 1), at(tops, open - 1));
        jumpBack(at(tops, open - 1));
        finish();
      }
    }

    private void doLoop(int act, int word) {
      if (act == Grammar.DO) {
        begin(true);
        turn(word);
      } else if (act == Grammar.DO_AGAIN) {
        code.aim(at(agains, open - 1), code.length);
      } else {
        condition(word);
        code.emit(Code.JUMP_TRUE, at(tops, open - 1), 0, 0);
        finish();
      }
    }

    private void forLoop(int act, int word, boolean tested) {
      if (act == Grammar.FOR) {
        begin(true);
      } else if (act == Grammar.FOR_TEST) {
        if (tested) {
          exitUnless(condition(word));
        }
        set(bodies, open - 1, code.emit(Code.JUMP, -1, 0, 0));
        set(lasts, open - 1, code.length);
      } else if (act == Grammar.FOR_BODY) {
        jumpBack(at(tops, open - 1));
        code.aim(at(bodies, open - 1), code.length);
        turn(word);
      } else {
        code.aim(at(agains, open - 1), at(lasts, open - 1));
        jumpBack(at(lasts, open - 1));
        finish();
      }
    }
  }

  /** The objects that are picked, and the image that the latest right link() made of some. */
  private static final class Image {
    private static final int DEFINED_TWICE = 31;
    private static final int DEFINED_NOWHERE = 32;
    private static final int OTHER_TYPE = 33;
    private static final int NO_MAIN = 34;
    private static final int MUCH_DATA = 35;
    private static final int MAIN_LENGTH = 4;

    private final Store store;
    private final byte[] mainName = new byte[MAIN_LENGTH];
    private boolean ready = false;
    private int faultObject = -1;
    private int faultSymbol = -1;
    /** Objects in their order; the library stands before all others. */
    private int picks = 1;
    private final int[] picked = new int[MOST_OBJECTS + 1];
    private int links = 0;
    private final int[] linked = new int[MOST_OBJECTS + 1];
    /** Where an object's data begin. */
    private final int[] bases = new int[MOST_OBJECTS + 1];
    /** A variable's first cell; a function's header, or below 0 one of the library. */
    private final int[] addresses = new int[Store.MOST_DECLARATIONS];
    private int mainHeader = 0;

    private Image(Store store) {
      this.store = store;
      mainName[0] = 'm';
      mainName[1] = 'a';
      mainName[2] = 'i';
      mainName[3] = 'n';
    }

    private int choose(int o) {
      for (int i = 1; i < picks; i++) {
        if (at(picked, i) == o) {
          return -1;
        }
      }
      set(picked, picks, o);
      picks++;
      return picks - 1;
    }

    /** Links what is picked, and uses it up. */
    private int join() {
      faultObject = -1;
      faultSymbol = -1;
      int main = find(picked, picks, mainName, 0, MAIN_LENGTH);
      int fault = 0;
      for (int kind = DEFINED_TWICE; kind <= OTHER_TYPE && fault == 0; kind++) {
        fault = look(kind);
      }
      if (fault == 0 && !isMain(main)) {
        fault = NO_MAIN;
      }
      if (fault == 0 && dataCells() > MOST_DATA) {
        fault = MUCH_DATA;
      }
      if (fault == 0) {
        settle();
        mainHeader = at(addresses, main);
        ready = true;
      }
      picks = 1;
      return -fault;
    }

    private boolean isMain(int d) {
      return d >= 0 && store.is(d, Store.FUNCTION) && at(store.types, d) == 0
          && at(store.extents, d) == 0;
    }

    private int dataCells() {
      int cells = 0;
      for (int i = 1; i < picks; i++) {
        cells += at(store.dataCells, at(picked, i));
      }
      return cells;
    }

    /** The first fault of a kind, by object and then by symbol: the kind, or 0. */
    private int look(int kind) {
      for (int i = 1; i < picks; i++) {
        int o = at(picked, i);
        int symbol = 0;
        for (int d = store.firstOf(o); d < at(store.declarationEnds, o); d++) {
          boolean known = !store.is(d, Store.IS_STATIC);
          if (known && isWrong(kind, i, d)) {
            faultObject = i - 1;
            faultSymbol = symbol;
            return kind;
          }
          symbol += known ? 1 : 0;
        }
      }
      return 0;
    }

    private boolean isWrong(int kind, int i, int d) {
      if (store.is(d, Store.DEFINED)) {
        return kind == DEFINED_TWICE && definition(i, d) >= 0;
      }
      if (kind == DEFINED_NOWHERE) {
        return store.is(d, Store.MENTIONED) && definition(picks, d) < 0;
      }
      return kind == OTHER_TYPE && !agrees(d, definition(picks, d));
    }

    private boolean agrees(int d, int definition) {
      int extent = at(store.extents, d);
      int other = at(store.extents, definition);
      boolean function = store.is(d, Store.FUNCTION);
      boolean anySize = !function && extent == 0 && other > 0;
      return definition < 0 || function == store.is(definition, Store.FUNCTION)
          && at(store.types, d) == at(store.types, definition) && (extent == other || anySize);
    }

    /** What defines the name of a declaration among the first n objects picked, or -1. */
    private int definition(int n, int d) {
      int start = store.nameStart(d);
      return find(picked, n, store.names, start, at(store.nameEnds, d) - start);
    }

    private int find(int[] objects, int n, byte[] text, int from, int length) {
      for (int i = 0; i < n; i++) {
        int o = at(objects, i);
        for (int d = store.firstOf(o); d < at(store.declarationEnds, o); d++) {
          if (store.is(d, Store.DEFINED) && !store.is(d, Store.IS_STATIC)
              && store.isNamed(d, text, from, length)) {
            return d;
          }
        }
      }
      return -1;
    }

    /** Gives all that is picked its place; what is defined first, as others refer to it. */
    private void settle() {
      links = picks;
      int base = FIRST_CELL;
      for (int i = 0; i < links; i++) {
        int o = at(picked, i);
        set(linked, i, o);
        set(bases, o, base);
        base += at(store.dataCells, o);
        for (int d = store.firstOf(o); d < at(store.declarationEnds, o); d++) {
          int first = store.is(d, Store.FUNCTION) ? 0 : at(bases, o);
          set(addresses, d, first + at(store.values, d));
        }
      }
      for (int i = 1; i < links; i++) {
        refer(at(linked, i));
      }
    }

    private void refer(int o) {
      for (int d = store.firstOf(o); d < at(store.declarationEnds, o); d++) {
        if (!store.is(d, Store.DEFINED)) {
          set(addresses, d, at(addresses, definition(links, d)));
        }
      }
    }

    /** The first cell of a linked symbol, by its name. */
    private int cellOf(byte[] text, int length) {
      int d = ready ? find(linked, links, text, 0, length) : -1;
      if (d < 0) {
        return -1;
      }
      return store.is(d, Store.FUNCTION) ? 0 : at(addresses, d);
    }

    /** Puts the data of the image into a memory that is 0. */
    private void fill(int[] memory) {
      for (int i = 1; i < links; i++) {
        int o = at(linked, i);
        for (int k = at(store.initialEnds, o - 1); k < at(store.initialEnds, o); k++) {
          int base = at(store.initialBases, k);
          int from = base == Store.NO_BASE ? 0
              : base == Store.OWN_DATA ? at(bases, o) : at(addresses, base);
          int cell = at(bases, o) + at(store.initialCells, k);
          set(memory, cell, from + at(store.initialValues, k));
        }
      }
    }
  }

  /** The bytes that go into a run and those that come out of it. */
  private static final class Tape {
    private static final int MOST = 4096;

    private int inputs = 0;
    private int taken = 0;
    private int outputs = 0;
    private final byte[] input = new byte[MOST];
    private final byte[] output = new byte[MOST];

    private Tape() {
    }

    private int give(int b) {
      if (inputs >= MOST || inputs >= input.length) {
        return -1;
      }
      input[inputs] = (byte) b;
      inputs++;
      return inputs;
    }

    private void begin() {
      taken = 0;
      outputs = 0;
    }

    private void useUp() {
      inputs = 0;
    }

    private int next() {
      if (taken < 0 || taken >= inputs || taken >= input.length) {
        return -1;
      }
      taken++;
      return input[taken - 1] & 255;
    }

    /** Whether one more byte finds room. */
    private boolean put(int b) {
      if (outputs < 0 || outputs >= output.length) {
        return false;
      }
      output[outputs] = (byte) b;
      outputs++;
      return true;
    }

    private boolean print(int x) {
      long left = Math.abs((long) x);
      long unit = 1;
      for (int n = 0; n < 10 && unit * 10 <= left; n++) {
        unit *= 10;
      }
      boolean room = x >= 0 || put('-');
      for (; unit > 0 && room; unit /= 10) {
        room = put((int) ('0' + left / unit % 10));
      }
      return room;
    }

    private int byteAt(int i) {
      return i >= 0 && i < outputs && i < output.length ? output[i] & 255 : -1;
    }
  }

  /** Runs an image: a memory, and a stack with each call's locals and what is worked out. */
  private static final class Machine {
    private static final int RUNNING = -1;
    private static final int RETURNED = 0;
    private static final int NO_QUOTIENT = 1;
    private static final int NO_CELL = 2;
    private static final int NO_FRAME = 3;
    private static final int NO_FUEL = 4;
    private static final int STOPPED = 5;
    private static final int NO_ROOM = 6;

    private static final int LOWEST_FRAME = 24576;
    private static final int FRAME_REST = 32;
    private static final int MOST_CALLS = (CELLS - LOWEST_FRAME) / FRAME_REST;
    /** No call has more locals and unfinished values: a height holds at most eight of these. */
    private static final int CALL_ROOM = MOST_NAMES + 8 * MOST_HIGH;
    /** What a call keeps of the one before: where it goes on, its locals, its frame. */
    private static final int KEPT = 3;
    /** An instruction takes less than this from the stack, and puts less there. */
    private static final int MARGIN = 8;

    private final Store store;
    private final Image image;
    private final Tape tape;
    private final int[] words;
    private final int[] memory = new int[CELLS];
    private final int[] stack = new int[MOST_CALLS * CALL_ROOM + 2 * MARGIN];
    private final int[] kept = new int[KEPT * (MOST_CALLS + 1)];
    private int calls;
    private int next;
    private int top;
    private int locals;
    private int frame;
    private int fuel;
    private int outcome;
    private int turned = 0;
    private int answer = 0;
    /** The word behind which a trap was met, or -1 where there is none. */
    private int trapPlace = -1;
    private int trapLine = 0;
    private int strayed = 0;

    private Machine(Image image, Tape tape) {
      this.image = image;
      this.store = image.store;
      this.tape = tape;
      this.words = store.code.words;
    }

    /** Runs the image that is linked: the outcome or trap. */
    private int execute(int newFuel) {
      begin(newFuel);
      enter(image.mainHeader, 0);
      // Between two turns a way forward, or back by a return or a loop's end, which turns pay for.
      long most = (4L * fuel + 8) * (store.code.length + 1L);
      for (long n = 0; n < most && outcome == RUNNING; n++) {
        step();
      }
      if (outcome == RUNNING) {
        stray();
      }
      tape.useUp();
      return outcome;
    }

    private void begin(int newFuel) {
      Arrays.fill(memory, 0);
      image.fill(memory);
      tape.begin();
      fuel = newFuel;
      outcome = RUNNING;
      turned = 0;
      answer = 0;
      trapPlace = -1;
      trapLine = 0;
      calls = 0;
      next = 0;
      top = MARGIN;
      locals = MARGIN;
      frame = CELLS;
    }

    private void stray() {
      strayed++;
      outcome = RETURNED;
    }

    private void fail(int kind, int line) {
      outcome = kind;
      trapPlace = next - 1;
      trapLine = line;
    }

    private void step() {
      int now = next;
      int op = at(words, now);
      int length = at(Code.LENGTHS, op);
      if (length == 0 || top < MARGIN || top >= stack.length - MARGIN) {
        stray();
        return;
      }
      next = now + length;
      if (op >= Code.FIRST_SIGN) {
        calculate(op, now);
      } else if (op >= Code.JUMP) {
        lead(op, now);
      } else if (op >= Code.NEGATE) {
        push(inverted(op, pop()));
      } else if (op >= Code.LOAD) {
        reach(op, now);
      } else if (op >= Code.LOAD_FRAME) {
        inFrame(op, now);
      } else {
        plain(op, now);
      }
    }

    private void push(int value) {
      set(stack, top, value);
      top++;
    }

    private int pop() {
      top--;
      return at(stack, top);
    }

    private int peeked() {
      return at(stack, top - 1);
    }

    private static int inverted(int op, int a) {
      switch (op) {
        case Code.NEGATE:
          return -a;
        case Code.FLIP:
          return ~a;
        case Code.NOT:
          return a == 0 ? 1 : 0;
        default:
          return a != 0 ? 1 : 0;
      }
    }

    private static int worked(int op, int a, int b) {
      switch (op) {
        case Tokens.SHL:
          return a << (b & 31);
        case Tokens.SHR:
          return a >> (b & 31);
        case Tokens.ADD:
          return a + b;
        case Tokens.SUB:
          return a - b;
        case Tokens.MUL:
          return a * b;
        case Tokens.DIV:
          return b == 0 ? 0 : a / b;
        case Tokens.REM:
          return b == 0 ? 0 : a % b;
        case Tokens.AND:
          return a & b;
        case Tokens.OR:
          return a | b;
        case Tokens.XOR:
          return a ^ b;
        default:
          return compared(op, a, b) ? 1 : 0;
      }
    }

    private static boolean compared(int op, int a, int b) {
      int unsigned = Integer.MIN_VALUE;
      switch (op) {
        case Tokens.EQUAL:
          return a == b;
        case Tokens.UNEQUAL:
          return a != b;
        case Tokens.LESS:
          return a < b;
        case Tokens.MORE:
          return a > b;
        case Tokens.NOT_MORE:
          return a <= b;
        case Tokens.NOT_LESS:
          return a >= b;
        case Code.BELOW:
          return a + unsigned < b + unsigned;
        case Code.ABOVE:
          return a + unsigned > b + unsigned;
        case Code.NOT_ABOVE:
          return a + unsigned <= b + unsigned;
        case Code.NOT_BELOW:
          return a + unsigned >= b + unsigned;
        default:
          return false;
      }
    }

    private void calculate(int op, int now) {
      int b = pop();
      int a = pop();
      if ((op == Tokens.DIV || op == Tokens.REM) && b == 0) {
        fail(NO_QUOTIENT, at(words, now + 1));
      } else {
        push(worked(op, a, b));
      }
    }

    /** Constants, variables outside of functions, and locals without cells. */
    private void plain(int op, int now) {
      int first = at(words, now + 1);
      int second = at(words, now + 2);
      switch (op) {
        case Code.PUSH:
          push(first);
          break;
        case Code.POP:
          pop();
          break;
        case Code.DATA:
          push(at(image.bases, first) + second);
          break;
        case Code.OUTER:
          push(at(image.addresses, first));
          break;
        case Code.LOAD_OUTER:
          push(at(memory, at(image.addresses, first)));
          break;
        case Code.STORE_OUTER:
          set(memory, at(image.addresses, first), peeked());
          break;
        case Code.STEP_OUTER:
          stepped(memory, at(image.addresses, first), now);
          break;
        case Code.LOAD_LOCAL:
          push(at(stack, locals + first));
          break;
        case Code.STORE_LOCAL:
          set(stack, locals + first, peeked());
          break;
        default:
          stepped(stack, locals + first, now);
          break;
      }
    }

    /** Adds to what stands in a row, and pushes the sum less what a sign behind takes back. */
    private void stepped(int[] row, int i, int now) {
      int sum = at(row, i) + at(words, now + 2);
      set(row, i, sum);
      push(sum - at(words, now + 3));
    }

    private void inFrame(int op, int now) {
      int place = frame + at(words, now + 1);
      int second = at(words, now + 2);
      switch (op) {
        case Code.LOAD_FRAME:
          push(at(memory, place));
          break;
        case Code.STORE_FRAME:
          set(memory, place, peeked());
          break;
        case Code.STEP_FRAME:
          stepped(memory, place, now);
          break;
        case Code.FRAME:
          push(place);
          break;
        case Code.CLEAR:
          for (int i = 0; i < second && i < CELLS; i++) {
            set(memory, place + i, 0);
          }
          break;
        case Code.PUT:
          set(memory, place + second, pop());
          break;
        default:
          set(memory, place + second, at(words, now + 3));
          break;
      }
    }

    private static boolean isCell(int n) {
      return n >= FIRST_CELL && n < CELLS;
    }

    /** Cells whose number is on the stack. */
    private void reach(int op, int now) {
      int line = at(words, now + 1);
      int value = op == Code.STORE ? pop() : 0;
      int n = pop();
      if (!isCell(n)) {
        fail(NO_CELL, line);
      } else if (op == Code.LOAD) {
        push(at(memory, n));
      } else if (op == Code.STORE) {
        set(memory, n, value);
        push(value);
      } else if (op == Code.STEP) {
        stepped(memory, n, now);
      } else {
        push(n);
        push(at(memory, n));
      }
    }

    private void lead(int op, int now) {
      int first = at(words, now + 1);
      switch (op) {
        case Code.JUMP:
          next = first;
          break;
        case Code.JUMP_ZERO:
          next = pop() == 0 ? first : next;
          break;
        case Code.JUMP_TRUE:
          next = pop() != 0 ? first : next;
          break;
        case Code.AND_JUMP:
        case Code.OR_JUMP:
          decide(op == Code.OR_JUMP, first);
          break;
        case Code.TURN:
          turn(first);
          break;
        case Code.CALL:
          call(at(image.addresses, first), at(words, now + 2));
          break;
        default:
          giveBack();
          break;
      }
    }

    /** The left side of && or ||: the whole answer, or none of it. */
    private void decide(boolean deciding, int target) {
      if (pop() != 0 == deciding) {
        push(deciding ? 1 : 0);
        next = target;
      }
    }

    private boolean turn(int line) {
      if (turned >= fuel) {
        fail(NO_FUEL, line);
        return false;
      }
      turned++;
      return true;
    }

    private void call(int address, int line) {
      if (address >= 0) {
        enter(address, line);
      } else {
        useLibrary(-1 - address, line);
      }
    }

    private void useLibrary(int function, int line) {
      int given = function == Store.GET ? 0 : pop();
      push(function == Store.GET ? tape.next() : 0);
      if (function == Store.PUT && !tape.put(given)
          || function == Store.PRINT && !tape.print(given)) {
        fail(NO_ROOM, line);
      } else if (function == Store.STOP) {
        answer = given;
        outcome = STOPPED;
      }
    }

    private void enter(int header, int line) {
      if (!turn(line)) {
        return;
      }
      int begin = frame - FRAME_REST - at(words, header);
      if (begin < LOWEST_FRAME) {
        fail(NO_FRAME, line);
        return;
      }
      set(kept, KEPT * calls, next);
      set(kept, KEPT * calls + 1, locals);
      set(kept, KEPT * calls + 2, frame);
      calls++;
      locals = top - at(words, header + 2);
      top = locals + at(words, header + 1);
      frame = begin;
      next = header + Code.HEADER;
      copyParameters(at(words, header + 2), at(words, header + 3));
    }

    private void copyParameters(int n, int copied) {
      int place = frame;
      for (int i = 0; i < n; i++) {
        if ((copied >> i & 1) != 0) {
          set(memory, place, at(stack, locals + i));
          place++;
        }
      }
    }

    private void giveBack() {
      int value = pop();
      calls--;
      top = locals;
      next = at(kept, KEPT * calls);
      locals = at(kept, KEPT * calls + 1);
      frame = at(kept, KEPT * calls + 2);
      if (calls <= 0) {
        answer = value;
        outcome = RETURNED;
      } else {
        push(value);
      }
    }
  }
}
