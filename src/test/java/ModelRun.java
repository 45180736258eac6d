import java.util.ArrayList;
import java.util.List;

/** Term 5 of the document: walks the trees of an image. */
final class ModelRun {
  /** How a run ends before main is through. */
  private static final class End extends RuntimeException {
    private static final long serialVersionUID = 1;
    final int kind;

    End(int kind) {
      super("end " + kind, null, false, false);
      this.kind = kind;
    }
  }

  /** How a statement ends. */
  private enum After { ON, BREAK, CONTINUE, RETURN }

  private final Model.Linked image;
  private final List<Integer> input;
  private final int fuel;
  private int taken = 0;
  private int frame = 32768;
  private int object = 0;
  private int[] slots = {};
  private int returned = 0;

  int result = 0;
  int turns = 0;
  int trapObject = 0;
  int trapLine = 0;
  final List<Integer> output = new ArrayList<>();
  final int[] memory = new int[32768];

  ModelRun(Model.Linked image, List<Integer> input, int fuel) {
    this.image = image;
    this.input = input;
    this.fuel = fuel;
  }

  int go() {
    for (Model.Compiled o : image.objects) {
      for (Model.Initial i : o.initials) {
        int base = i.own() ? image.bases.get(o) : i.of() != null ? image.cellOf(i.of()) : 0;
        memory[image.bases.get(o) + i.cell()] = base + i.value();
      }
    }
    int[] outcome = new int[1];
    Thread t = new Thread(null, () -> outcome[0] = all(), "run", 1L << 27);
    t.start();
    try {
      t.join();
    } catch (InterruptedException e) {
      throw new IllegalStateException(e);
    }
    return outcome[0];
  }

  private int all() {
    try {
      Model.Name main = image.defined.get("main");
      result = enter(main, new int[0], 0);
      return 0;
    } catch (End e) {
      return e.kind;
    }
  }

  private End trap(int kind, int line) {
    trapObject = line == 0 ? 0 : object;
    trapLine = line;
    return new End(kind);
  }

  private void turn(int line) {
    if (turns + 1 > fuel) {
      throw trap(4, line);
    }
    turns++;
  }

  private int enter(Model.Name n, int[] given, int line) {
    turn(line);
    Model.Function f = n.body;
    int begin = frame - 32 - f.cells;
    if (begin < 24576) {
      throw trap(3, line);
    }
    int frameBefore = frame;
    int objectBefore = object;
    int[] slotsBefore = slots;
    frame = begin;
    object = image.homes.get(n).number;
    slots = new int[f.slots];
    for (int i = 0; i < given.length; i++) {
      put(f.parameters.get(i), given[i]);
    }
    returned = 0;
    int value = statements(f.body.kids) == After.RETURN ? returned : 0;
    frame = frameBefore;
    object = objectBefore;
    slots = slotsBefore;
    return value;
  }

  private After statements(List<Model.Node> all) {
    for (Model.Node s : all) {
      After a = statement(s);
      if (a != After.ON) {
        return a;
      }
    }
    return After.ON;
  }

  private After statement(Model.Node s) {
    switch (s.op) {
      case "block":
        return statements(s.kids);
      case "int":
        s.variables.forEach(this::declare);
        return After.ON;
      case "expression":
        value(s.kids.get(0));
        return After.ON;
      case "if":
        if (value(s.kids.get(0)) != 0) {
          return statement(s.kids.get(1));
        }
        return s.kids.size() > 2 ? statement(s.kids.get(2)) : After.ON;
      case "while":
        return loop(s, s.kids.get(0), null, s.kids.get(1));
      case "do":
        return repeated(s);
      case "for":
        if (s.kids.get(0) != null) {
          value(s.kids.get(0));
        }
        return loop(s, s.kids.get(1), s.kids.get(2), s.kids.get(3));
      case "break":
        return After.BREAK;
      case "continue":
        return After.CONTINUE;
      case "return":
        returned = s.kids.isEmpty() ? 0 : value(s.kids.get(0));
        return After.RETURN;
      default:
        return After.ON;
    }
  }

  private After loop(Model.Node s, Model.Node test, Model.Node last, Model.Node body) {
    while (test == null || value(test) != 0) {
      turn(s.at.line);
      After a = statement(body);
      if (a == After.RETURN) {
        return a;
      }
      if (a == After.BREAK) {
        return After.ON;
      }
      if (last != null) {
        value(last);
      }
    }
    return After.ON;
  }

  private After repeated(Model.Node s) {
    do {
      turn(s.at.line);
      After a = statement(s.kids.get(0));
      if (a == After.RETURN) {
        return a;
      }
      if (a == After.BREAK) {
        return After.ON;
      }
    } while (value(s.kids.get(1).kids.get(0)) != 0);
    return After.ON;
  }

  private void declare(Model.Variable v) {
    Model.Name n = v.name;
    if (!n.isArray) {
      put(n, 0);
      if (v.expression != null) {
        put(n, value(v.expression));
      }
      return;
    }
    for (int i = 0; i < n.size; i++) {
      memory[frame + n.cell + i] = 0;
    }
    if (v.list != null) {
      for (int i = 0; i < v.list.size(); i++) {
        memory[frame + n.cell + i] = value(v.list.get(i));
      }
    } else if (v.expression != null) {
      int[] codes = v.expression.at.codes;
      System.arraycopy(codes, 0, memory, frame + n.cell, codes.length);
    }
  }

  private int cellOf(Model.Name n) {
    return n.isLocal ? frame + n.cell : image.cellOf(n);
  }

  private int get(Model.Name n) {
    return n.isLocal && !n.hasCell ? slots[n.slot] : memory[cellOf(n)];
  }

  private void put(Model.Name n, int value) {
    if (n.isLocal && !n.hasCell) {
      slots[n.slot] = value;
    } else {
      memory[cellOf(n)] = value;
    }
  }

  private int checked(int cell, int line) {
    if (cell < 16 || cell > 32767) {
      throw trap(2, line);
    }
    return cell;
  }

  /** The cell that a place tells: of * and [ ]. */
  private int pointed(Model.Node e) {
    int p = value(e.kids.get(0));
    return e.op.equals("[") ? p + value(e.kids.get(1)) : p;
  }

  private static Model.Node inside(Model.Node e) {
    return e.op.equals("(") ? inside(e.kids.get(0)) : e;
  }

  static int inverted(String op, int a) {
    return op.equals("1-") ? -a : op.equals("1~") ? ~a : a == 0 ? 1 : 0;
  }

  static int worked(String op, int a, int b, boolean pointers) {
    switch (op.substring(1)) {
      case "+":
        return a + b;
      case "-":
        return a - b;
      case "*":
        return a * b;
      case "/":
        return a / b;
      case "%":
        return a % b;
      case "&":
        return a & b;
      case "|":
        return a | b;
      case "^":
        return a ^ b;
      case "<<":
        return a << b;
      case ">>":
        return a >> b;
      case "==":
        return a == b ? 1 : 0;
      case "!=":
        return a != b ? 1 : 0;
      default:
        int order = pointers ? Integer.compareUnsigned(a, b) : Integer.compare(a, b);
        boolean same = op.length() > 2 && order == 0;
        return same || (op.charAt(1) == '<' ? order < 0 : order > 0) ? 1 : 0;
    }
  }

  private int divided(String op, int a, int b, boolean pointers, int line) {
    if (b == 0 && (op.equals("2/") || op.equals("2%"))) {
      throw trap(1, line);
    }
    return worked(op, a, b, pointers);
  }

  private int value(Model.Node e) {
    switch (e.op.charAt(0)) {
      case '1':
        return unary(e, e.kids.get(0));
      case '2':
        return binary(e);
      case '3':
        return stepped(e, inside(e.kids.get(0)), true);
      default:
        return other(e);
    }
  }

  private int other(Model.Node e) {
    switch (e.op) {
      case "number":
        return e.at.value;
      case "string":
        return image.bases.get(objectNow()) + e.cell;
      case "name":
        return e.name.isArray ? cellOf(e.name) : get(e.name);
      case "(":
      case "cast":
        return value(e.kids.get(0));
      case "[":
        return memory[checked(pointed(e), e.at.line)];
      case "?":
        return value(e.kids.get(value(e.kids.get(0)) != 0 ? 1 : 2));
      case "call":
        return call(e);
      default:
        return assigned(e, inside(e.kids.get(0)));
    }
  }

  private Model.Compiled objectNow() {
    for (Model.Compiled o : image.objects) {
      if (o.number == object) {
        return o;
      }
    }
    throw new IllegalStateException();
  }

  private int unary(Model.Node e, Model.Node of) {
    switch (e.op.substring(1)) {
      case "*":
        return memory[checked(value(of), e.at.line)];
      case "&":
        Model.Node place = inside(of);
        return place.op.equals("name") ? cellOf(place.name) : pointed(place);
      case "++":
      case "--":
        return stepped(e, inside(of), false);
      default:
        return inverted(e.op, value(of));
    }
  }

  private int binary(Model.Node e) {
    int a = value(e.kids.get(0));
    if (e.op.equals("2&&") && a == 0) {
      return 0;
    }
    if (e.op.equals("2||") && a != 0) {
      return 1;
    }
    int b = value(e.kids.get(1));
    if (e.op.equals("2&&") || e.op.equals("2||")) {
      return b != 0 ? 1 : 0;
    }
    return divided(e.op, a, b, e.kids.get(0).type > 0, e.at.line);
  }

  private int stepped(Model.Node e, Model.Node place, boolean behind) {
    int by = e.op.endsWith("++") ? 1 : -1;
    int old;
    if (place.op.equals("name")) {
      old = get(place.name);
      put(place.name, old + by);
    } else {
      int cell = checked(pointed(place), e.at.line);
      old = memory[cell];
      memory[cell] = old + by;
    }
    return behind ? old : old + by;
  }

  private int assigned(Model.Node e, Model.Node place) {
    boolean named = place.op.equals("name");
    boolean plain = e.op.equals("=");
    int line = e.at.line;
    int cell = named ? 0 : pointed(place);
    int old = plain ? 0 : named ? get(place.name) : memory[checked(cell, line)];
    int value = value(e.kids.get(1));
    if (!plain) {
      value = divided("2" + e.op.substring(0, e.op.length() - 1), old, value, false, line);
    }
    if (named) {
      put(place.name, value);
    } else {
      memory[checked(cell, line)] = value;
    }
    return value;
  }

  private int call(Model.Node e) {
    int[] given = new int[e.kids.size()];
    for (int i = 0; i < given.length; i++) {
      given[i] = value(e.kids.get(i));
    }
    Model.Name n = image.meanings.getOrDefault(e.name, e.name);
    return n.body != null ? enter(n, given, e.at.line) : library(n.name, given, e.at.line);
  }

  private int library(String name, int[] given, int line) {
    switch (name) {
      case "get":
        taken++;
        return taken <= input.size() ? input.get(taken - 1) : -1;
      case "put":
        out(given[0] & 255, line);
        return 0;
      case "print":
        for (char c : String.valueOf(given[0]).toCharArray()) {
          out(c, line);
        }
        return 0;
      default:
        result = given[0];
        throw new End(5);
    }
  }

  private void out(int b, int line) {
    if (output.size() >= 4096) {
      throw trap(6, line);
    }
    output.add(b);
  }
}
