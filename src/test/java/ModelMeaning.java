import java.util.ArrayList;
import java.util.HashMap;
import java.util.List;
import java.util.Map;

/** Term 3 of the document: what a unit's tree means, looked at in its order. */
final class ModelMeaning {
  private static final String NO_CONSTANT = " 2|| 2&& ";
  private static final int FITS_NOWHERE = -2;

  private final ModelText text;
  private final Model.Compiled made = new Model.Compiled();
  private final Map<String, Model.Name> outers = new HashMap<>();
  /** The scopes of a function, the innermost last. */
  private final List<Map<String, Model.Name>> scopes = new ArrayList<>();
  private Model.Function function = null;
  private int loops = 0;

  /** A value of an initial outside of functions: a constant, or on top of a variable or string. */
  private record Worth(Model.Name of, boolean own, int value) {
  }

  ModelMeaning(ModelText text) {
    this.text = text;
  }

  Model.Compiled look() {
    for (int i = 0; i < text.items.size(); i++) {
      Object item = text.items.get(i);
      String linkage = text.linkages.get(i);
      if (item instanceof Model.Function f) {
        function(f, linkage.equals("static"));
      } else if (item instanceof Model.Variable v) {
        outer(v, linkage);
      }
    }
    Model.Token first = null;
    for (Model.Name n : made.names) {
      boolean lacks = n.isFunction && n.isStatic && !n.isDefined && n.firstCall != null;
      if (lacks && (first == null || n.firstCall.place < first.place)) {
        first = n.firstCall;
      }
    }
    if (first != null) {
      throw new Model.Fault(2, first.place);
    }
    return made;
  }

  private static void check(boolean right, int kind, Model.Token at) {
    if (!right) {
      throw new Model.Fault(kind, at.place);
    }
  }

  private void function(Model.Function f, boolean isStatic) {
    Model.Name n = outers.get(f.at.name);
    check(n == null || n.isFunction && n.type == f.result && n.parameters.equals(f.types)
        && n.isStatic == isStatic && (f.body == null || !n.isDefined), 2, f.at);
    if (n == null) {
      n = declareOuter(f.at);
      n.isFunction = true;
      n.type = f.result;
      n.parameters = f.types;
      n.isStatic = isStatic;
    }
    if (f.body == null) {
      return;
    }
    n.isDefined = true;
    n.body = f;
    function = f;
    scopes.add(new HashMap<>());
    for (int i = 0; i < f.types.size(); i++) {
      Model.Token at = f.names.get(i);
      check(at.kind.equals("name") && !scopes.get(0).containsKey(at.name), 2, at);
      f.parameters.add(declareLocal(at, f.types.get(i)));
    }
    for (Model.Node s : f.body.kids) {
      statement(s);
    }
    scopes.clear();
    place(f);
    function = null;
  }

  private final List<Model.Name> locals = new ArrayList<>();

  private void place(Model.Function f) {
    for (Model.Name n : locals) {
      if (n.isArray || n.hasCell) {
        n.hasCell = true;
        n.cell = f.cells;
        f.cells += n.isArray ? n.size : 1;
      }
    }
    f.slots = locals.size();
    locals.clear();
  }

  private Model.Name declareOuter(Model.Token at) {
    check(outers.size() < 100, 4, at);
    Model.Name n = new Model.Name();
    n.name = at.name;
    outers.put(n.name, n);
    made.names.add(n);
    return n;
  }

  private Model.Name declareLocal(Model.Token at, int type) {
    Model.Name n = new Model.Name();
    n.name = at.name;
    n.type = type;
    n.isLocal = true;
    n.slot = locals.size();
    locals.add(n);
    scopes.get(scopes.size() - 1).put(n.name, n);
    return n;
  }

  /** The size that a variable's text tells: 0 where none is told, below 0 where it is wrong. */
  private int sizeOf(Model.Variable v) {
    if (v.size != null) {
      Integer n = v.size == null ? null : constant(v.size);
      return n == null || heightOf(v.size) > 60 || n < 1 ? -1 : n;
    }
    if (v.list != null) {
      return v.list.size();
    }
    return v.expression != null && v.expression.op.equals("string") ? v.expression.at.codes.length + 1 : 0;
  }

  private void lookAtSquare(Model.Variable v, int size, boolean mayLack) {
    if (v.square != null) {
      check(size > 0 || size == 0 && mayLack, 2, v.square);
      check(size <= 4000, 4, v.square);
    }
  }

  private void outer(Model.Variable v, String linkage) {
    boolean isExtern = linkage.equals("extern");
    boolean isStatic = linkage.equals("static");
    int size = v.square == null ? 0 : sizeOf(v);
    int told = size >= 1 && size <= 4000 ? size : 0;
    Model.Name n = outers.get(v.at.name);
    if (n != null) {
      check(!n.isFunction && n.type == v.stars && n.isArray == (v.square != null)
          && (n.size == 0 || told == 0 || n.size == told), 2, v.at);
      check(!n.isStatic && !isStatic && (isExtern || !n.isDefined), 2, v.at);
    } else {
      n = declareOuter(v.at);
      n.type = v.stars;
      n.isArray = v.square != null;
      n.isStatic = isStatic;
    }
    lookAtSquare(v, size, isExtern || v.sign != null);
    n.size = told > 0 ? told : n.size;
    if (!isExtern) {
      n.isDefined = true;
      n.cell = made.data;
      made.data += n.isArray ? told : 1;
      check(made.data <= 16000, 4, v.at);
    }
    v.name = n;
    initial(v, isExtern);
  }

  private void local(Model.Variable v) {
    check(!scopes.get(scopes.size() - 1).containsKey(v.at.name), 2, v.at);
    check(locals.size() < 100, 4, v.at);
    int size = v.square == null ? 0 : sizeOf(v);
    lookAtSquare(v, size, v.sign != null);
    v.name = declareLocal(v.at, v.stars);
    v.name.isArray = v.square != null;
    v.name.size = size;
    initial(v, false);
  }

  /** Whether a string fills the variable. */
  static boolean isFilled(Model.Variable v) {
    return v.name.isArray && v.stars == 0 && v.expression != null && v.expression.op.equals("string");
  }

  private void initial(Model.Variable v, boolean isExtern) {
    boolean fits = !isExtern;
    if (v.sign == null) {
      return;
    }
    if (isFilled(v)) {
      int[] codes = v.expression.at.codes;
      fits &= codes.length <= v.name.size;
      for (int i = 0; i < codes.length && !v.name.isLocal; i++) {
        made.initials.add(new Model.Initial(v.name.cell + i, false, null, codes[i]));
      }
    } else if (v.list != null) {
      fits &= v.name.isArray && v.list.size() <= v.name.size;
      for (int i = 0; i < v.list.size(); i++) {
        fits &= one(v, v.list.get(i), i);
      }
    } else {
      fits &= one(v, v.expression, 0) && !v.name.isArray;
    }
    check(fits, 2, v.sign);
  }

  /** Looks at an expression behind a variable's =: whether it fits a cell of it. */
  private boolean one(Model.Variable v, Model.Node e, int i) {
    look(e);
    if (v.name.isLocal) {
      return fits(e, v.stars);
    }
    Worth w = worth(e);
    if (w != null) {
      made.initials.add(new Model.Initial(v.name.cell + i, w.own, w.of, w.value));
    }
    return fits(e, v.stars) && w != null;
  }

  private static Model.Node inside(Model.Node e) {
    Model.Node n = e;
    while (n.op.equals("(")) {
      n = n.kids.get(0);
    }
    return n;
  }

  /** What an initial outside of functions is worth, or null. */
  private Worth worth(Model.Node e) {
    Integer number = constant(e);
    if (number != null) {
      return new Worth(null, false, number);
    }
    Model.Node n = inside(e);
    if (n.op.equals("string")) {
      return new Worth(null, true, n.cell);
    }
    if (n.op.equals("name")) {
      return n.name.isArray ? new Worth(n.name, false, 0) : null;
    }
    if (n.op.equals("1&")) {
      Model.Node of = inside(n.kids.get(0));
      return of.op.equals("name") ? new Worth(of.name, false, 0) : null;
    }
    if (!n.op.equals("2+") && !n.op.equals("2-")) {
      return null;
    }
    Worth left = worth(n.kids.get(0));
    Worth right = worth(n.kids.get(1));
    if (left == null || right == null) {
      return null;
    }
    boolean leftPoints = left.own || left.of != null;
    boolean rightPoints = right.own || right.of != null;
    if (rightPoints && (leftPoints || n.op.equals("2-"))) {
      return null;
    }
    int value = n.op.equals("2+") ? left.value + right.value : left.value - right.value;
    return new Worth(leftPoints ? left.of : right.of, leftPoints ? left.own : right.own, value);
  }

  /** What a constant is worth, or null. */
  private static Integer constant(Model.Node e) {
    Model.Node n = inside(e);
    if (n.op.equals("number")) {
      return n.at.value;
    }
    if (n.op.startsWith("1") && n.kids.size() == 1) {
      Integer a = "-!~".contains(n.op.substring(1)) ? constant(n.kids.get(0)) : null;
      return a == null ? null : Integer.valueOf(ModelRun.inverted(n.op, a));
    }
    if (!n.op.startsWith("2") || NO_CONSTANT.contains(" " + n.op + " ")) {
      return null;
    }
    Integer a = constant(n.kids.get(0));
    Integer b = constant(n.kids.get(1));
    if (a == null || b == null || b == 0 && (n.op.equals("2/") || n.op.equals("2%"))) {
      return null;
    }
    return ModelRun.worked(n.op, a, b, false);
  }

  private static int heightOf(Model.Node e) {
    int most = 0;
    for (Model.Node k : e.kids) {
      most = Math.max(most, heightOf(k));
    }
    return e.op.equals("(") ? most : most + 1;
  }

  private void statement(Model.Node s) {
    switch (s.op) {
      case "block":
        scopes.add(new HashMap<>());
        for (Model.Node k : s.kids) {
          statement(k);
        }
        scopes.remove(scopes.size() - 1);
        break;
      case "int":
        for (Model.Variable v : s.variables) {
          local(v);
        }
        break;
      case "expression":
        look(s.kids.get(0));
        break;
      case "if":
        condition(s.kids.get(0), s.at);
        for (Model.Node k : s.kids.subList(1, s.kids.size())) {
          body(k);
        }
        break;
      case "while":
        condition(s.kids.get(0), s.at);
        loop(s.kids.get(1));
        break;
      case "do":
        loop(s.kids.get(0));
        condition(s.kids.get(1).kids.get(0), s.kids.get(1).at);
        break;
      case "for":
        counted(s);
        break;
      case "break":
      case "continue":
        check(loops > 0, 2, s.at);
        break;
      case "return":
        if (s.kids.isEmpty()) {
          check(function.result == Model.VOID, 2, s.at);
        } else {
          look(s.kids.get(0));
          check(function.result != Model.VOID && fits(s.kids.get(0), function.result), 2, s.at);
        }
        break;
      default:
        break;
    }
  }

  private void counted(Model.Node s) {
    if (s.kids.get(0) != null) {
      look(s.kids.get(0));
    }
    if (s.kids.get(1) != null) {
      condition(s.kids.get(1), s.at);
    }
    if (s.kids.get(2) != null) {
      look(s.kids.get(2));
    }
    loop(s.kids.get(3));
  }

  private void condition(Model.Node e, Model.Token word) {
    look(e);
    check(e.type != Model.VOID, 2, word);
  }

  private void loop(Model.Node body) {
    loops++;
    body(body);
    loops--;
  }

  private void body(Model.Node s) {
    scopes.add(new HashMap<>());
    statement(s);
    scopes.remove(scopes.size() - 1);
  }

  private Model.Name meaning(String name) {
    for (int i = scopes.size() - 1; i >= 0; i--) {
      Model.Name n = scopes.get(i).get(name);
      if (n != null) {
        return n;
      }
    }
    return outers.get(name);
  }

  private static boolean isZero(Model.Node e) {
    Model.Node n = inside(e);
    return n.op.equals("number") && n.at.value == 0;
  }

  private static boolean fits(Model.Node e, int type) {
    return e.type != Model.VOID && (e.type == type || type > 0 && isZero(e));
  }

  private static boolean isPlace(Model.Node e) {
    Model.Node n = inside(e);
    return n.op.equals("name") && !n.name.isArray || n.op.equals("1*") || n.op.equals("[");
  }

  /** Looks at an expression: its type and height, or its first fault. */
  private void look(Model.Node e) {
    if (e.op.equals("call")) {
      call(e);
      return;
    }
    e.height = 0;
    for (Model.Node k : e.kids) {
      look(k);
      e.height = Math.max(e.height, k.height);
    }
    e.height += e.op.equals("(") ? 0 : 1;
    e.type = typeOf(e);
    check(e.type != FITS_NOWHERE, 2, e.at);
    check(e.height <= 60, 4, e.at);
  }

  private void call(Model.Node e) {
    Model.Name n = meaning(e.at.name);
    check(n != null && n.isFunction, 2, e.at);
    n.isMentioned = true;
    n.firstCall = n.firstCall == null ? e.at : n.firstCall;
    e.name = n;
    e.type = n.type;
    boolean right = e.kids.size() == n.parameters.size();
    for (int i = 0; i < e.kids.size(); i++) {
      Model.Node k = e.kids.get(i);
      look(k);
      e.height = Math.max(e.height, k.height);
      right = right && fits(k, n.parameters.get(i));
    }
    e.height++;
    check(right, 2, e.at);
    check(e.height <= 60, 4, e.at);
  }

  private int typeOf(Model.Node e) {
    switch (e.op.charAt(0)) {
      case '1':
        return typeOfUnary(e, e.kids.get(0));
      case '2':
        return typeOfBinary(e.op.substring(1), e.kids.get(0), e.kids.get(1));
      case '3':
        return isPlace(e.kids.get(0)) ? e.kids.get(0).type : FITS_NOWHERE;
      default:
        return typeOfOther(e);
    }
  }

  private int typeOfOther(Model.Node e) {
    Model.Node first = e.kids.isEmpty() ? e : e.kids.get(0);
    switch (e.op) {
      case "number":
        return 0;
      case "string":
        e.cell = made.data;
        made.data += e.at.codes.length + 1;
        check(made.data <= 16000, 4, e.at);
        for (int i = 0; i < e.at.codes.length; i++) {
          made.initials.add(new Model.Initial(e.cell + i, false, null, e.at.codes[i]));
        }
        return 1;
      case "name":
        e.name = meaning(e.at.name);
        check(e.name != null && !e.name.isFunction, 2, e.at);
        e.name.isMentioned = true;
        return e.name.isArray ? e.name.type + 1 : e.name.type;
      case "(":
        return first.type;
      case "cast":
        return first.type == Model.VOID ? FITS_NOWHERE : e.stars;
      case "[":
        return first.type > 0 && e.kids.get(1).type == 0 ? first.type - 1 : FITS_NOWHERE;
      case "?":
        return typeOfChoice(first, e.kids.get(1), e.kids.get(2));
      default:
        return typeOfAssignment(e.op, first, e.kids.get(1));
    }
  }

  private static int typeOfChoice(Model.Node first, Model.Node a, Model.Node b) {
    if (first.type == Model.VOID || a.type == Model.VOID || b.type == Model.VOID) {
      return FITS_NOWHERE;
    }
    if (a.type == b.type || a.type > 0 && isZero(b)) {
      return a.type;
    }
    return b.type > 0 && isZero(a) ? b.type : FITS_NOWHERE;
  }

  private static int typeOfAssignment(String sign, Model.Node left, Model.Node right) {
    boolean right0 = right.type == 0;
    boolean fits = sign.equals("=") ? fits(right, left.type)
        : sign.equals("+=") || sign.equals("-=") ? right0 && left.type >= 0 : right0 && left.type == 0;
    return isPlace(left) && fits ? left.type : FITS_NOWHERE;
  }

  private static int typeOfUnary(Model.Node e, Model.Node of) {
    switch (e.op.substring(1)) {
      case "-":
      case "~":
        return of.type == 0 ? 0 : FITS_NOWHERE;
      case "!":
        return of.type == Model.VOID ? FITS_NOWHERE : 0;
      case "*":
        return of.type > 0 ? of.type - 1 : FITS_NOWHERE;
      case "&":
        if (!isPlace(of) || of.type >= 9) {
          return FITS_NOWHERE;
        }
        if (inside(of).op.equals("name") && inside(of).name.isLocal) {
          inside(of).name.hasCell = true;
        }
        return of.type + 1;
      default:
        return isPlace(of) ? of.type : FITS_NOWHERE;
    }
  }

  private static int typeOfBinary(String sign, Model.Node a, Model.Node b) {
    if (a.type == Model.VOID || b.type == Model.VOID) {
      return FITS_NOWHERE;
    }
    boolean ints = a.type == 0 && b.type == 0;
    boolean same = a.type == b.type;
    switch (sign) {
      case "+":
        return ints || a.type > 0 && b.type == 0 ? a.type : a.type == 0 ? b.type : FITS_NOWHERE;
      case "-":
        return same ? 0 : a.type > 0 && b.type == 0 ? a.type : FITS_NOWHERE;
      case "<":
      case ">":
      case "<=":
      case ">=":
        return same ? 0 : FITS_NOWHERE;
      case "==":
      case "!=":
        return same || a.type > 0 && isZero(b) || b.type > 0 && isZero(a) ? 0 : FITS_NOWHERE;
      case "&&":
      case "||":
        return 0;
      default:
        return ints ? 0 : FITS_NOWHERE;
    }
  }
}
