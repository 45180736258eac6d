import java.util.ArrayList;
import java.util.HashMap;
import java.util.IdentityHashMap;
import java.util.List;
import java.util.Map;

/**
 * The document once more, written from its words alone and as plainly as can be: each unit is a tree
 * (ModelText), looked at once (ModelMeaning) and walked when it runs (ModelRun). It shares nothing
 * with LinkedUnits, so that one mistake is not made twice.
 */
final class Model {
  static final int VOID = -1;

  /** Tells that a unit has a fault. */
  static final class Fault extends RuntimeException {
    private static final long serialVersionUID = 1;
    final int kind;
    final int place;

    Fault(int kind, int place) {
      super("fault " + kind + " at " + place, null, false, false);
      this.kind = kind;
      this.place = place;
    }
  }

  /** A token; its kind is name, number, string, end, none, or the word or sign itself. */
  static final class Token {
    String kind;
    String name = "";
    int value;
    int[] codes = {};
    int place;
    int line;
  }

  /** A part of a unit; what it is stands in op. */
  static final class Node {
    final String op;
    final Token at;
    final List<Node> kids = new ArrayList<>();
    /** Of a statement that declares some. */
    List<Variable> variables = List.of();
    /** Of a cast. */
    int stars;
    int type;
    int height;
    /** Of a string: its first cell among the data of its object. */
    int cell;
    Name name;

    Node(String op, Token at, Node... kids) {
      this.op = op;
      this.at = at;
      this.kids.addAll(List.of(kids));
    }
  }

  /** A variable as a unit's text has it: NAME [size] = initial. */
  static final class Variable {
    Token at;
    int stars;
    Token square;
    Node size;
    Token sign;
    Node expression;
    List<Node> list;
    Name name;
  }

  /** A function as a unit's text has it. */
  static final class Function {
    Token at;
    int result;
    final List<Integer> types = new ArrayList<>();
    /** The NAMEs, or what stands where one lacks. */
    final List<Token> names = new ArrayList<>();
    final List<Name> parameters = new ArrayList<>();
    Node body;
    int slots;
    int cells;
  }

  /** What a NAME means. */
  static final class Name {
    String name;
    boolean isFunction;
    boolean isStatic;
    boolean isDefined;
    boolean isMentioned;
    int type;
    boolean isArray;
    /** An array's, 0 without one. */
    int size;
    List<Integer> parameters = List.of();
    Function body;
    /** Its first cell among the data, or of the frame. */
    int cell;
    boolean isLocal;
    boolean hasCell;
    int slot;
    Token firstCall;
  }

  /** One cell of the data that is not 0: a value, on top of the own data or of a variable. */
  record Initial(int cell, boolean own, Name of, int value) {
  }

  /** A unit that was compiled. */
  static final class Compiled {
    int number;
    final List<Name> names = new ArrayList<>();
    final List<Initial> initials = new ArrayList<>();
    int data;

    List<Name> symbols() {
      List<Name> all = new ArrayList<>();
      for (Name n : names) {
        if (!n.isStatic) {
          all.add(n);
        }
      }
      return all;
    }
  }

  /** Objects that are linked: where their data begin, and what their names mean. */
  static final class Linked {
    final List<Compiled> objects = new ArrayList<>();
    final Map<Compiled, Integer> bases = new IdentityHashMap<>();
    final Map<Name, Name> meanings = new IdentityHashMap<>();
    final Map<Name, Compiled> homes = new IdentityHashMap<>();
    final Map<String, Name> defined = new HashMap<>();

    int cellOf(Name n) {
      Name meaning = meanings.getOrDefault(n, n);
      return bases.get(homes.get(meaning)) + meaning.cell;
    }
  }

  private static final String LIBRARY = "int get(void); void put(int); void print(int); void stop(int);";

  private byte[] tray = {};
  private int fed = 0;
  private int place = -1;
  private final List<Compiled> compiled = new ArrayList<>();
  private final Compiled library;
  private List<Compiled> picked = new ArrayList<>();
  private int faultObject = -1;
  private int faultSymbol = -1;
  private Linked linked = null;
  private List<Integer> input = new ArrayList<>();
  private ModelRun latest = null;

  Model() {
    library = new ModelMeaning(ModelText.read(LIBRARY.getBytes())).look();
    for (Name n : library.names) {
      n.isDefined = true;
    }
  }

  int feed(int a, int b, int c, int d, int e) {
    if (tray.length + 20 > 16000 || fed + 20 > 65536) {
      return -1;
    }
    byte[] more = java.util.Arrays.copyOf(tray, tray.length + 20);
    int[] fives = {a, b, c, d, e};
    for (int i = 0; i < 20; i++) {
      more[tray.length + i] = (byte) (fives[i / 4] >>> 24 - i % 4 * 8);
    }
    tray = more;
    fed += 20;
    return tray.length;
  }

  int end(int n) {
    if (n < 0 || n > tray.length) {
      return -1;
    }
    tray = java.util.Arrays.copyOf(tray, n);
    return n;
  }

  int compile(int level) {
    byte[] text = tray;
    tray = new byte[0];
    place = -1;
    if (level < 0 || level > 3 || compiled.size() >= 100) {
      return -14;
    }
    try {
      Compiled o = new ModelMeaning(ModelText.read(text)).look();
      compiled.add(o);
      o.number = compiled.size();
      return o.number;
    } catch (Fault f) {
      place = f.place;
      return -20 - f.kind;
    }
  }

  int place() {
    return place;
  }

  int objects() {
    return compiled.size();
  }

  private boolean has(int o) {
    return o >= 1 && o <= compiled.size();
  }

  int count(int o, int what) {
    if (!has(o) || what != 0 && what != 1) {
      return -1;
    }
    return what == 0 ? compiled.get(o - 1).symbols().size() : compiled.get(o - 1).data;
  }

  private Name symbolOf(int o, int s) {
    if (!has(o)) {
      return null;
    }
    List<Name> all = compiled.get(o - 1).symbols();
    return s < 0 || s >= all.size() ? null : all.get(s);
  }

  int name(int o, int s, int i) {
    Name n = symbolOf(o, s);
    return n == null || i < 0 || i >= n.name.length() ? -1 : n.name.charAt(i);
  }

  int symbol(int o, int s) {
    Name n = symbolOf(o, s);
    if (n == null) {
      return -1;
    }
    return (n.isFunction ? 2 : 1) + (n.isDefined ? 4 : 0) + (!n.isDefined && n.isMentioned ? 8 : 0);
  }

  int pick(int o) {
    if (!has(o) || picked.contains(compiled.get(o - 1))) {
      return -1;
    }
    picked.add(compiled.get(o - 1));
    return picked.size();
  }

  int link() {
    List<Compiled> all = picked;
    picked = new ArrayList<>();
    faultObject = -1;
    faultSymbol = -1;
    Linked made = new Linked();
    gather(made, library);
    int fault = definedTwice(made, all);
    fault = fault != 0 ? fault : lacking(made, all);
    fault = fault != 0 ? fault : unlike(made, all);
    fault = fault != 0 ? fault : main(made);
    fault = fault != 0 ? fault : lay(made, all);
    if (fault == 0) {
      linked = made;
    }
    return fault;
  }

  private static void gather(Linked made, Compiled o) {
    for (Name n : o.names) {
      made.homes.put(n, o);
      if (n.isDefined && !n.isStatic) {
        made.defined.putIfAbsent(n.name, n);
      }
    }
  }

  private int tell(int fault, int object, int symbol) {
    faultObject = object;
    faultSymbol = symbol;
    return fault;
  }

  private int definedTwice(Linked made, List<Compiled> all) {
    for (int i = 0; i < all.size(); i++) {
      List<Name> symbols = all.get(i).symbols();
      for (int s = 0; s < symbols.size(); s++) {
        if (symbols.get(s).isDefined && made.defined.containsKey(symbols.get(s).name)) {
          return tell(-31, i, s);
        }
      }
      gather(made, all.get(i));
    }
    return 0;
  }

  private int lacking(Linked made, List<Compiled> all) {
    for (int i = 0; i < all.size(); i++) {
      List<Name> symbols = all.get(i).symbols();
      for (int s = 0; s < symbols.size(); s++) {
        Name n = symbols.get(s);
        if (!n.isDefined && n.isMentioned && !made.defined.containsKey(n.name)) {
          return tell(-32, i, s);
        }
      }
    }
    return 0;
  }

  private int unlike(Linked made, List<Compiled> all) {
    for (int i = 0; i < all.size(); i++) {
      List<Name> symbols = all.get(i).symbols();
      for (int s = 0; s < symbols.size(); s++) {
        Name n = symbols.get(s);
        Name d = made.defined.get(n.name);
        if (n.isDefined || d == null) {
          continue;
        }
        made.meanings.put(n, d);
        boolean same = n.isFunction == d.isFunction && n.type == d.type && n.parameters.equals(d.parameters)
            && n.isArray == d.isArray && (n.size == 0 || n.size == d.size);
        if (!same) {
          return tell(-33, i, s);
        }
      }
    }
    return 0;
  }

  private static int main(Linked made) {
    Name n = made.defined.get("main");
    return n != null && n.isFunction && n.type == 0 && n.parameters.isEmpty() ? 0 : -34;
  }

  private static int lay(Linked made, List<Compiled> all) {
    int cells = 0;
    for (Compiled o : all) {
      made.objects.add(o);
      made.bases.put(o, 16 + cells);
      cells += o.data;
    }
    return cells > 16000 ? -35 : 0;
  }

  int fault(int what) {
    return what == 0 ? faultObject : what == 1 ? faultSymbol : -1;
  }

  int cell() {
    String name = new String(tray, java.nio.charset.StandardCharsets.ISO_8859_1);
    tray = new byte[0];
    Name n = linked == null ? null : linked.defined.get(name);
    return n == null ? -1 : n.isFunction ? 0 : linked.cellOf(n);
  }

  int input(int b) {
    if (input.size() >= 4096) {
      return -1;
    }
    input.add(b & 255);
    return input.size();
  }

  int run(int fuel) {
    if (linked == null) {
      return -1;
    }
    if (fuel < 0 || fuel > 20000) {
      return -2;
    }
    latest = new ModelRun(linked, input, fuel);
    input = new ArrayList<>();
    return latest.go();
  }

  int result() {
    return latest == null ? 0 : latest.result;
  }

  int turns() {
    return latest == null ? 0 : latest.turns;
  }

  int trap(int what) {
    return latest == null ? 0 : what == 0 ? latest.trapObject : what == 1 ? latest.trapLine : 0;
  }

  int written() {
    return latest == null ? 0 : latest.output.size();
  }

  int out(int i) {
    return latest == null || i < 0 || i >= latest.output.size() ? -1 : latest.output.get(i);
  }

  int peek(int i) {
    return latest == null || i < 0 || i >= latest.memory.length ? 0 : latest.memory[i];
  }

  int strays() {
    return 0;
  }
}
