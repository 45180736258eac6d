/** Promises 1 to 22 and the rest of term 6: each sentence, and both sides of each edge in it. */
final class EdgesOfCalls {
  private EdgesOfCalls() {
  }

  private static final int[] FAR = {-1, -2, 1000, 65536, Integer.MAX_VALUE, Integer.MIN_VALUE};
  private static final String LIB = "int get(void); void put(int); void print(int); void stop(int); ";
  private static final String MAIN = "int main() { return 1; }";

  static void ask() {
    usedUp();
    newObject();
    feeding();
    ending();
    compiling();
    places();
    counting();
    naming();
    symbols();
    picking();
    linking();
    cells();
    inputs();
    running();
    results();
    outputs();
    peeking();
    strays();
  }

  private static void usedUp() {
    Sentence.says("Picked objects are used up by each link(); the tray by cell() and by each compile().");
    Trial t = new Trial();
    t.compile(MAIN, 0);
    t.compile("int b;", 0);
    Trial.due("pick(1)", t.units.pick(1), 1);
    Trial.due("link()", t.units.link(), 0);
    Trial.due("pick(2)", t.units.pick(2), 1);
    Trial.due("link()", t.units.link(), -34);
    Trial.due("pick(2)", t.units.pick(2), 1);
    Trial.due("pick(1)", t.units.pick(1), 2);
    Trial.due("link()", t.units.link(), 0);
    Trial.due("link() of nothing", t.units.link(), -34);
    // What was picked for the link() before does not count.
    t.compile("int w[4000], x[4000], y[4000], z[4000]; " + MAIN, 1);
    t.compile("int more();", 2);
    for (int k = 0; k < 2; k++) {
      t.units.pick(4);
      t.units.pick(3);
      Trial.due("link()", t.units.link(), 0);
      Trial.due("pick(3)", t.units.pick(3), 1);
      Trial.due("link()", t.units.link(), 0);
    }
    String[] texts = {"int a;", "int", "int a = b;", "int a[4001];", ""};
    for (String text : texts) {
      for (int level : new int[] {-1, 0, 1, 2, 3, 4}) {
        t.compile(text, level);
        Trial.due("end(1) behind compile(" + level + ") of " + text, t.units.end(1), -1);
        Trial.due("end(0)", t.units.end(0), 0);
      }
    }
    for (String name : new String[] {"b", "main", "nothing", ""}) {
      t.cell(name);
      Trial.due("end(1) behind cell() of " + name, t.units.end(1), -1);
    }
    Trial.due("cell() of an empty tray", t.units.cell(), -1);
    Trial.due("compile() of an empty tray", t.units.compile(0) > 0 ? 1 : 0, 1);
    Trial u = new Trial();
    Trial.due("cell() without an image", u.cell("put"), -1);
    Trial.due("end(1) behind it", u.units.end(1), -1);
    Sentence.says("fault() is -1, -1 behind a link() without fault.");
    Trial.due("link()", t.units.link(), -34);
    t.units.pick(1);
    Trial.due("link()", t.units.link(), 0);
    Trial.due("fault(0)", t.units.fault(0), -1);
    Trial.due("fault(1)", t.units.fault(1), -1);
    Sentence.says("peek() tells the memory of the latest run, also behind another link().");
    Trial v = new Trial();
    v.go("int a = 5; int main() { a++; *(int *) 30000 = 4; return 0; }", 1, 9);
    v.compile("int b = 7; int main() { return 0; }", 1);
    v.units.pick(2);
    Trial.due("link()", v.units.link(), 0);
    Trial.due("peek(16)", v.units.peek(16), 6);
    Trial.due("peek(30000)", v.units.peek(30000), 4);
    v.units.link();
    Trial.due("peek(16)", v.units.peek(16), 6);
    Trial.due("run(-1)", v.units.run(-1), -2);
    Trial.due("peek(16)", v.units.peek(16), 6);
    Trial.due("run(0)", v.units.run(0), 4);
    Trial.due("peek(16)", v.units.peek(16), 7);
    Trial.due("peek(30000)", v.units.peek(30000), 0);
    Sentence.says("A text is used up by the call that reads it.");
    Trial w = new Trial();
    w.text("int a;");
    Trial.due("end(6)", w.units.end(6), 6);
    Trial.due("compile(0)", w.units.compile(0), 1);
    Trial.due("end(1)", w.units.end(1), -1);
    Trial.due("the next one is empty", w.units.compile(0), 2);
    Trial.due("count(2, 0)", w.units.count(2, 0), 0);
    w.text("int b;");
    w.units.place();
    w.units.link();
    w.units.run(1);
    Trial.due("other calls leave it", w.units.end(6), 6);
  }

  private static void newObject() {
    Sentence.says("No units, nothing linked.");
    LinkedUnits x = new LinkedUnits();
    Trial.due("objects()", x.objects(), 0);
    Trial.due("run(0)", x.run(0), -1);
    Trial.due("cell()", x.cell(), -1);
    Trial.due("pick(1)", x.pick(1), -1);
    Trial.due("end(0)", x.end(0), 0);
    Trial.due("end(1)", x.end(1), -1);
    Trial.due("fault(0)", x.fault(0), -1);
    Trial.due("link()", x.link(), -34);
  }

  private static void feeding() {
    Sentence.says("The twenty bytes of five ints, the highest first, go into the tray: how many it has then;");
    LinkedUnits x = new LinkedUnits();
    Trial.due("feed", x.feed(0x696e7420, 0x61626364, 0x65666768, 0x696a6b6c, 0x6d6e6f70), 20);
    Trial.due("feed", x.feed(0x71727374, 0x2c207a3b, 0x2f2f80ff, 0, 0), 40);
    Trial.due("end(28)", x.end(28), 28);
    Trial.due("compile(0)", x.compile(0), 1);
    for (int i = 0; i < 20; i++) {
      Trial.due("name(1, 0, " + i + ")", x.name(1, 0, i), 'a' + i);
    }
    Trial.due("name(1, 0, 20)", x.name(1, 0, 20), -1);
    Trial.due("name(1, 1, 0)", x.name(1, 1, 0), 'z');
    Trial.due("feed", x.feed(-1, -1, -1, -1, -1), 20);
    Trial.due("compile(0)", x.compile(0), -21);
    Sentence.says("-1, and none does, if it would have more than 16000, or there would be more than 65536 in all (each feed() counts 20, whatever end() cuts).");
    LinkedUnits y = new LinkedUnits();
    for (int i = 1; i <= 800; i++) {
      Trial.due("feed", y.feed(0x20202020, 0x20202020, 0x20202020, 0x20202020, 0x20202020), 20 * i);
    }
    Trial.due("feed", y.feed(0, 0, 0, 0, 0), -1);
    Trial.due("none went in", y.end(16000), 16000);
    Trial.due("none went in", y.end(16001), -1);
    Trial.due("end(15981)", y.end(15981), 15981);
    Trial.due("feed", y.feed(0, 0, 0, 0, 0), -1);
    Trial.due("none went in", y.end(15982), -1);
    Trial.due("end(15980)", y.end(15980), 15980);
    Trial.due("feed", y.feed(0x20202020, 0x20202020, 0x20202020, 0x20202020, 0x20202020), 16000);
    Trial.due("compile(0)", y.compile(0), 1);
    // 801 went in, those that were refused do not count: 3276 may.
    for (int i = 802; i <= 3276; i++) {
      y.end(0);
      Trial.due("feed " + i, y.feed(i, i, i, i, i), 20);
    }
    y.end(0);
    Trial.due("feed above 65536", y.feed(0, 0, 0, 0, 0), -1);
    Trial.due("none went in", y.end(1), -1);
    Trial.due("compile(0)", y.compile(0), 2);
  }

  private static void ending() {
    Sentence.says("The tray keeps its first n bytes: n;");
    LinkedUnits x = new LinkedUnits();
    x.feed(0x696e7420, 0x61623b20, 0x21212121, 0x21212121, 0x21212121);
    Trial.due("end(20)", x.end(20), 20);
    Trial.due("end(7)", x.end(7), 7);
    Trial.due("feed", x.feed(0x2f2f3b3b, 0x3b3b3b3b, 0x3b3b3b3b, 0x3b3b3b3b, 0x3b3b3b3b), 27);
    Trial.due("compile(0)", x.compile(0), 1);
    Trial.due("name(1, 0, 1)", x.name(1, 0, 1), 'b');
    x.feed(0x21212121, 0, 0, 0, 0);
    Trial.due("end(0)", x.end(0), 0);
    Trial.due("compile(0)", x.compile(0), 2);
    Sentence.says("-1, and all stays, if n is below 0 or it has not so many.");
    Trial.due("end(1) of an empty tray", x.end(1), -1);
    Trial.due("end(-1) of an empty tray", x.end(-1), -1);
    x.feed(0x696e7420, 0x61623b20, 0x20202020, 0x20202020, 0x20202020);
    for (int n : new int[] {-1, 21, 22, Integer.MIN_VALUE, Integer.MAX_VALUE}) {
      Trial.due("end(" + n + ")", x.end(n), -1);
    }
    Trial.due("all stays", x.end(20), 20);
    Trial.due("end(19)", x.end(19), 19);
    Trial.due("end(20)", x.end(20), -1);
    Trial.due("compile(0)", x.compile(0), 3);
    Trial.due("count(3, 0)", x.count(3, 0), 1);
  }

  private static void compiling() {
    Sentence.says("Compiles the tray's unit at a level of optimising 0 .. 3: its object's number;");
    Trial t = new Trial();
    for (int level = 0; level <= 3; level++) {
      Trial.due("compile(" + level + ")", t.compile("int a;", level), level + 1);
    }
    Sentence.says("-21, -22, -24 a fault 1, 2, 4;");
    for (int level = 0; level <= 3; level++) {
      Trial.due("fault 1", t.compile("int 1;", level), -21);
      Trial.due("fault 2", t.compile("int a = b;", level), -22);
      Trial.due("fault 4", t.compile("int a[4001];", level), -24);
    }
    Sentence.says("-14 there is no such level, or 100 objects were made.");
    for (int level : new int[] {-1, 4, 5, Integer.MIN_VALUE, Integer.MAX_VALUE}) {
      Trial.due("compile(" + level + ")", t.compile("int a;", level), -14);
      Trial.due("compile(" + level + ") of a fault", t.compile("int", level), -14);
    }
    for (int i = 5; i <= 100; i++) {
      Trial.due("compile", t.compile("int a;", i % 4), i);
    }
    for (int level = -1; level <= 4; level++) {
      Trial.due("compile(" + level + ")", t.compile("int a;", level), -14);
      Trial.due("compile(" + level + ") of a fault", t.compile("int", level), -14);
    }
  }

  private static void places() {
    Sentence.says("The place of the fault of the latest compile();");
    Trial t = new Trial();
    t.compile("int a = b;", 0);
    Trial.due("place()", t.units.place(), 8);
    Trial.due("place() again", t.units.place(), 8);
    t.compile("int a[4001];", 0);
    Trial.due("place()", t.units.place(), 5);
    t.compile("", 0);
    t.compile("@", 0);
    Trial.due("place() at the first byte", t.units.place(), 0);
    t.compile("int", 0);
    Trial.due("place() at the end", t.units.place(), 3);
    t.cell("int x");
    t.units.link();
    Trial.due("other calls leave it", t.units.place(), 3);
    Sentence.says("-1 if it had none (-14 is none) or there was none.");
    Trial u = new Trial();
    Trial.due("place() of a new object", u.units.place(), -1);
    u.compile("int", 0);
    u.compile("int a;", 0);
    Trial.due("place() behind a right unit", u.units.place(), -1);
    u.compile("int", 0);
    Trial.due("place()", u.units.place(), 3);
    Trial.due("compile(4)", u.compile("int", 4), -14);
    Trial.due("place() behind -14", u.units.place(), -1);
  }

  private static void counting() {
    Sentence.says("How many objects there are.");
    Trial t = new Trial();
    Trial.due("objects()", t.units.objects(), 0);
    t.compile("int a;", 0);
    Trial.due("objects()", t.units.objects(), 1);
    t.compile("int", 0);
    t.compile("int a;", 4);
    Trial.due("objects()", t.units.objects(), 1);
    t.compile("extern int a; int *p = \"xy\"; static int s[5]; int f();", 0);
    t.units.pick(2);
    t.units.link();
    Trial.due("objects()", t.units.objects(), 2);
    Sentence.says("How many symbols (0), cells of data (1) an object has;");
    Trial.due("count(1, 0)", t.units.count(1, 0), 1);
    Trial.due("count(1, 1)", t.units.count(1, 1), 1);
    Trial.due("count(2, 0)", t.units.count(2, 0), 3);
    Trial.due("count(2, 1)", t.units.count(2, 1), 9);
    t.compile("", 0);
    Trial.due("count(3, 0)", t.units.count(3, 0), 0);
    Trial.due("count(3, 1)", t.units.count(3, 1), 0);
    t.compile("int a[4000], b[4000], c[4000], d[4000];", 0);
    Trial.due("count(4, 1)", t.units.count(4, 1), 16000);
    StringBuilder hundred = new StringBuilder();
    for (int i = 0; i < 100; i++) {
      hundred.append("int z").append(i).append(';');
    }
    t.compile(hundred.toString(), 0);
    Trial.due("count(5, 0)", t.units.count(5, 0), 100);
    Trial.due("symbol(5, 99)", t.units.symbol(5, 99), 5);
    Trial.due("symbol(5, 100)", t.units.symbol(5, 100), -1);
    Trial.due("name(5, 99, 2)", t.units.name(5, 99, 2), '9');
    Sentence.says("-1 if there is none, or for another number.");
    for (int o : new int[] {0, 6, -1, 99, 100, 101, 1000, Integer.MAX_VALUE, Integer.MIN_VALUE}) {
      Trial.due("count(" + o + ", 0)", t.units.count(o, 0), -1);
      Trial.due("count(" + o + ", 1)", t.units.count(o, 1), -1);
      Trial.due("count(" + o + ", 2)", t.units.count(o, 2), -1);
    }
    for (int what : new int[] {2, 3, -1, Integer.MAX_VALUE, Integer.MIN_VALUE}) {
      Trial.due("count(1, " + what + ")", t.units.count(1, what), -1);
    }
  }

  private static void naming() {
    Sentence.says("Byte i of the name of symbol s of an object;");
    Trial t = new Trial();
    t.compile("int abc, _z9; static int hidden; int abcdefghijklmnopqrstuvwx(); extern int q;", 0);
    Trial.due("name 0", t.nameOf(1, 0), "abc");
    Trial.due("name 1", t.nameOf(1, 1), "_z9");
    Trial.due("name 2", t.nameOf(1, 2), "abcdefghijklmnopqrstuvwx");
    Trial.due("name 3", t.nameOf(1, 3), "q");
    Sentence.says("-1 if there is none.");
    Trial.due("name(1, 0, 3)", t.units.name(1, 0, 3), -1);
    Trial.due("name(1, 2, 23)", t.units.name(1, 2, 23), 'x');
    Trial.due("name(1, 2, 24)", t.units.name(1, 2, 24), -1);
    Trial.due("name(1, 4, 0)", t.units.name(1, 4, 0), -1);
    Trial.due("name(0, 0, 0)", t.units.name(0, 0, 0), -1);
    Trial.due("name(2, 0, 0)", t.units.name(2, 0, 0), -1);
    for (int far : FAR) {
      Trial.due("name(1, 0, " + far + ")", t.units.name(1, 0, far), -1);
      Trial.due("name(1, 1, " + far + ")", t.units.name(1, 1, far), -1);
      Trial.due("name(1, " + far + ", 0)", t.units.name(1, far, 0), -1);
      Trial.due("name(" + far + ", 0, 0)", t.units.name(far, 0, 0), -1);
    }
  }

  private static void symbols() {
    Sentence.says("Of a symbol: 1 a variable, 2 a function; 4 more if it is defined, 8 more if it is used;");
    Trial t = new Trial();
    t.compile("extern int a; extern int b; int c; int d(); int e(); int f() { return b + e() + c; } static int s;", 0);
    int[] want = {1, 9, 5, 2, 10, 6};
    for (int s = 0; s < want.length; s++) {
      Trial.due("symbol(1, " + s + ")", t.units.symbol(1, s), want[s]);
    }
    Sentence.says("-1 if there is none.");
    Trial.due("symbol(1, 6)", t.units.symbol(1, 6), -1);
    Trial.due("symbol(0, 0)", t.units.symbol(0, 0), -1);
    Trial.due("symbol(2, 0)", t.units.symbol(2, 0), -1);
    for (int far : FAR) {
      Trial.due("symbol(1, " + far + ")", t.units.symbol(1, far), -1);
      Trial.due("symbol(" + far + ", 0)", t.units.symbol(far, 0), -1);
    }
    t.compile("static int s;", 0);
    Trial.due("symbol(2, 0) of none", t.units.symbol(2, 0), -1);
  }

  private static void picking() {
    Sentence.says("One more object to link: how many;");
    Trial t = new Trial();
    for (int i = 1; i <= 100; i++) {
      t.compile(i == 50 ? MAIN : "static int a;", i % 4);
    }
    for (int i = 100; i >= 1; i--) {
      Trial.due("pick(" + i + ")", t.units.pick(i), 101 - i);
    }
    Sentence.says("-1 if there is none such, or it is picked already.");
    for (int i = 1; i <= 100; i++) {
      Trial.due("pick(" + i + ") again", t.units.pick(i), -1);
    }
    for (int far : new int[] {0, 101, -1, Integer.MAX_VALUE, Integer.MIN_VALUE}) {
      Trial.due("pick(" + far + ")", t.units.pick(far), -1);
    }
    Trial.due("link()", t.units.link(), 0);
    Trial.due("pick(0)", t.units.pick(0), -1);
    Trial.due("pick(100)", t.units.pick(100), 1);
    Trial.due("pick(100)", t.units.pick(100), -1);
    Trial.due("pick(99)", t.units.pick(99), 2);
    Trial u = new Trial();
    Trial.due("pick(1) of none", u.units.pick(1), -1);
    u.compile("int", 0);
    Trial.due("pick(1) of none", u.units.pick(1), -1);
    u.compile("int a;", 0);
    Trial.due("pick(1)", u.units.pick(1), 1);
    Trial.due("pick(2) of none", u.units.pick(2), -1);
  }

  private static void linking() {
    Sentence.says("Links the objects picked (used up): 0, and the image is told and run from now on;");
    Trial t = new Trial();
    t.compile("int a = 1; int main() { return a; }", 0);
    t.compile("int b = 2; int main() { return b; }", 1);
    Trial.due("run(1)", t.units.run(1), -1);
    for (int k = 0; k < 4; k++) {
      int o = 1 + k % 2;
      t.units.pick(o);
      Trial.due("link()", t.units.link(), 0);
      Trial.due("cell a", t.cell("a"), o == 1 ? 16 : -1);
      Trial.due("cell b", t.cell("b"), o == 2 ? 16 : -1);
      Trial.due("run(1)", t.units.run(1), 0);
      Trial.due("result()", t.units.result(), o);
    }
    Sentence.says("-31 .. -35 a fault (the image stays as it was).");
    t.compile("int d[4000], e[4000], f[4000], g[4000];", 0);
    t.compile("int h; int nowhere(); static int k() { return nowhere(); }", 0);
    t.compile("extern int *b;", 0);
    int[][] picks = {{1, 2}, {1, 4}, {2, 5}, {3}, {1, 3}, {}};
    int[] want = {-31, -32, -33, -34, -35, -34};
    for (int k = 0; k < want.length; k++) {
      for (int o : picks[k]) {
        t.units.pick(o);
      }
      Trial.due("link()", t.units.link(), want[k]);
      Trial.due("cell b stays", t.cell("b"), 16);
      Trial.due("cell a stays", t.cell("a"), -1);
      Trial.due("run(1) stays", t.units.run(1), 0);
      Trial.due("result() stays", t.units.result(), 2);
    }
    Trial u = new Trial();
    u.compile("int a;", 0);
    u.units.pick(1);
    Trial.due("link()", u.units.link(), -34);
    Trial.due("still no image", u.units.run(1), -1);
    Trial.due("still no image", u.cell("a"), -1);
    Sentence.says("The object (0), symbol (1) of the latest link()'s fault;");
    t.units.pick(3);
    t.units.pick(2);
    t.units.pick(1);
    Trial.due("link()", t.units.link(), -31);
    Trial.due("fault(0)", t.units.fault(0), 2);
    Trial.due("fault(1)", t.units.fault(1), 1);
    t.units.pick(1);
    t.units.run(1);
    Trial.due("fault(0) stays", t.units.fault(0), 2);
    Sentence.says("-1 if it had none, or there is none such.");
    for (int what : new int[] {2, 3, -1, Integer.MAX_VALUE, Integer.MIN_VALUE}) {
      Trial.due("fault(" + what + ")", t.units.fault(what), -1);
    }
    Trial.due("link()", t.units.link(), 0);
    Trial.due("fault(0)", t.units.fault(0), -1);
    Trial.due("fault(1)", t.units.fault(1), -1);
    Trial.due("fault(0) of a new object", new LinkedUnits().fault(0), -1);
    Trial.due("fault(1) of a new object", new LinkedUnits().fault(1), -1);
  }

  private static void cells() {
    Sentence.says("The first cell of a linked symbol, by its name in the tray: of a variable; 0 of a function, -1 if there is none such, or no image.");
    Trial t = new Trial();
    t.compile("int a; int *b = \"xy\"; int c[3]; static int hidden; int f() { return 1; } extern int e; int g(); static int h() { return 2; }", 0);
    t.compile("int a2; extern int c[]; int z[2]; " + MAIN + " int abcdefghijklmnopqrstuvwx;", 1);
    t.compile("int unlinked;", 2);
    Trial.due("cell without an image", t.cell("a"), -1);
    t.units.pick(1);
    t.units.pick(2);
    Trial.due("link()", t.units.link(), 0);
    String[] names = {"a", "b", "c", "f", "a2", "z", "main", "abcdefghijklmnopqrstuvwx", "hidden", "h", "e", "g", "unlinked", "", "aa", " a", "a ", "A", "x", "abcdefghijklmnopqrstuvw",
        "abcdefghijklmnopqrstuvwxy", "a\n", "int a", "\u0000", "\u00ff"};
    int[] want = {16, 17, 21, 0, 25, 26, 0, 28, -1, -1, -1, -1, -1, -1, -1, -1, -1, -1, -1, -1, -1, -1, -1, -1, -1};
    for (int i = 0; i < names.length; i++) {
      Trial.due("cell of " + names[i], t.cell(names[i]), want[i]);
    }
    t.units.run(1);
    Trial.due("cell behind a run", t.cell("z"), 26);
    Sentence.says("The library counts.");
    for (String name : new String[] {"get", "put", "print", "stop"}) {
      Trial.due("cell of " + name, t.cell(name), 0);
      Trial.due("cell of " + name + " without an image", new Trial().cell(name), -1);
    }
  }

  private static void inputs() {
    Sentence.says("One more byte (b & 255) of the input: how many;");
    Trial t = new Trial();
    t.go(LIB + "int main() { int i; for (i = 0; i < 6; i++) { print(get()); put(32); } }", 0, 99);
    int[] bytes = {0, 255, 256, -1, 0x7fffff41, 0x80000042};
    for (int i = 0; i < bytes.length; i++) {
      Trial.due("input(" + bytes[i] + ")", t.units.input(bytes[i]), i + 1);
    }
    Trial.due("run", t.units.run(99), 0);
    Trial.due("printed", t.printed(), "0 255 0 255 65 66 ");
    Sentence.says("-1 if there are 4096.");
    for (int i = 1; i <= 4096; i++) {
      Trial.due("input", t.units.input(7), i);
    }
    Trial.due("input 4097", t.units.input(8), -1);
    Trial.due("input 4098", t.units.input(8), -1);
    Trial.due("run", t.go(LIB + "int main() { int n = 0, s = 0, b; for (;;) { b = get(); if (b < 0) break; n++; s += b; } print(n); put(32); print(s); }", 1, 9999), 0);
    Trial.due("printed", t.printed(), "4096 " + 4096 * 7);
    Trial.due("input behind a run", t.units.input(8), 1);
  }

  private static void running() {
    Sentence.says("Runs the image with the input (used up) and fuel 0 .. 20000: the outcome or trap;");
    Trial t = new Trial();
    t.compile(LIB + "int g = 4; int main() { g = get(); if (g == 1) return 1 / (g - 1); if (g == 2) stop(9); if (g == 3) return *(int *) 3; if (g == 4) for (;;) ; return 8; }", 2);
    t.units.pick(1);
    t.units.link();
    int[] given = {0, 1, 2, 3, 4, -1};
    int[] want = {0, 1, 5, 2, 4, 0};
    for (int i = 0; i < given.length; i++) {
      if (given[i] >= 0) {
        t.units.input(given[i]);
        t.units.input(0);
      }
      Trial.due("run", t.units.run(20000), want[i]);
      Trial.due("peek(16)", t.units.peek(16), given[i]);
      Trial.due("the input is used up", t.units.input(5), 1);
      Trial.due("run(0)", t.units.run(0), 4);
      Trial.due("the input is used up", t.units.input(5), 1);
      Trial.due("run(1)", t.units.run(1), 0);
      Trial.due("peek(16)", t.units.peek(16), 5);
    }
    Sentence.says("-1 there is no image, else -2 fuel is another number (both are no run: the input stays, and all that is told of the latest one).");
    Trial u = new Trial();
    u.units.input(65);
    for (int fuel : new int[] {0, 1, 20000, 20001, -1, Integer.MIN_VALUE, Integer.MAX_VALUE}) {
      Trial.due("run(" + fuel + ") without an image", u.units.run(fuel), -1);
    }
    Trial.due("the input stays", u.units.input(66), 2);
    u.compile(LIB + "int g; int main() { g = get(); put(get()); g += get();\nreturn 1 / (g - 64); }", 1);
    u.units.pick(1);
    u.units.link();
    Trial.due("run", u.units.run(20000), 1);
    u.units.input(1);
    for (int fuel : new int[] {-1, 20001, Integer.MIN_VALUE, Integer.MAX_VALUE}) {
      Trial.due("run(" + fuel + ")", u.units.run(fuel), -2);
      Trial.due("result()", u.units.result(), 0);
      Trial.due("turns()", u.units.turns(), 1);
      Trial.due("trap(0)", u.units.trap(0), 1);
      Trial.due("trap(1)", u.units.trap(1), 2);
      Trial.due("written()", u.units.written(), 1);
      Trial.due("out(0)", u.units.out(0), 66);
      Trial.due("peek(16)", u.units.peek(16), 64);
    }
    Trial.due("the input stays", u.units.input(2), 2);
  }

  private static void results() {
    Trial t = new Trial();
    Sentence.says("What the latest run gave (outcomes 0 and 5), else 0; 0 before.");
    Trial.due("result() before", t.units.result(), 0);
    Trial.due("run", t.go("int main() { return -7; }", 0, 1), 0);
    Trial.due("result()", t.units.result(), -7);
    Trial.due("run", t.units.run(0), 4);
    Trial.due("result()", t.units.result(), 0);
    Trial.due("run", t.go(LIB + "int main() { stop(0x80000000); }", 1, 1), 5);
    Trial.due("result()", t.units.result(), Integer.MIN_VALUE);
    Trial.due("run(-1)", t.units.run(-1), -2);
    Trial.due("result()", t.units.result(), Integer.MIN_VALUE);
    Trial.due("run", t.go("int main() { return 5 / 0; }", 1, 1), 1);
    Trial.due("result()", t.units.result(), 0);
    Sentence.says("The turns that were counted in it; 0 before.");
    Trial u = new Trial();
    Trial.due("turns() before", u.units.turns(), 0);
    Trial.due("run", u.go("int main() { int i = 4; while (i) i--; return 0; }", 2, 9), 0);
    Trial.due("turns()", u.units.turns(), 5);
    Trial.due("run(4)", u.units.run(4), 4);
    Trial.due("turns()", u.units.turns(), 4);
    Trial.due("run(0)", u.units.run(0), 4);
    Trial.due("turns()", u.units.turns(), 0);
    Sentence.says("The object (0) and line (1) of its trap; 0 if it had none, for another number, and before.");
    Trial v = new Trial();
    for (int what : new int[] {0, 1, 2, -1}) {
      Trial.due("trap(" + what + ") before", v.units.trap(what), 0);
    }
    v.compile("int pad;", 0);
    Trial.due("run", v.go("int z; int main() {\n\nif (z) return 3; return 5 / z; }", 3, 1), 1);
    Trial.due("trap(0)", v.units.trap(0), 2);
    Trial.due("trap(1)", v.units.trap(1), 3);
    for (int what : new int[] {2, 3, -1, Integer.MAX_VALUE, Integer.MIN_VALUE}) {
      Trial.due("trap(" + what + ")", v.units.trap(what), 0);
    }
    Trial.due("run", v.go("int main() {\n\nreturn 3; }", 3, 1), 0);
    Trial.due("trap(0)", v.units.trap(0), 0);
    Trial.due("trap(1)", v.units.trap(1), 0);
    Trial.due("run", v.go(LIB + "int main() {\n\nstop(3); }", 3, 1), 5);
    Trial.due("trap(0)", v.units.trap(0), 0);
    Trial.due("trap(1)", v.units.trap(1), 0);
  }

  private static void outputs() {
    Sentence.says("How many bytes it put out; 0 before.");
    Trial t = new Trial();
    Trial.due("written() before", t.units.written(), 0);
    Trial.due("out(0) before", t.units.out(0), -1);
    t.go(LIB + "int main() { put('a'); print(-10); put(0); return 1 / 0; }", 0, 1);
    Trial.due("written()", t.units.written(), 5);
    Sentence.says("Byte i of them;");
    int[] want = {'a', '-', '1', '0', 0};
    for (int i = 0; i < want.length; i++) {
      Trial.due("out(" + i + ")", t.units.out(i), want[i]);
    }
    Sentence.says("-1 if there is none.");
    Trial.due("out(5)", t.units.out(5), -1);
    Trial.due("out(4096)", t.units.out(4096), -1);
    for (int far : FAR) {
      Trial.due("out(" + far + ")", t.units.out(far), -1);
    }
    Trial.due("run(0)", t.units.run(0), 4);
    Trial.due("written()", t.units.written(), 0);
    Trial.due("out(0)", t.units.out(0), -1);
  }

  private static void peeking() {
    Sentence.says("Cell i of the memory as it left it; 0 if there is none, or no run was.");
    Trial t = new Trial();
    t.compile("int a = 5; int main() { *(int *) 32767 = 6; *(int *) 20 = -1; return 0; }", 0);
    t.units.pick(1);
    t.units.link();
    for (int i : new int[] {15, 16, 20, 32767, 32768, -1}) {
      Trial.due("peek(" + i + ") before a run", t.units.peek(i), 0);
    }
    t.units.run(1);
    int[] cells = {0, 15, 16, 17, 20, 32766, 32767, 32768, 32769, 65536, -1, -16, Integer.MAX_VALUE, Integer.MIN_VALUE};
    int[] want = {0, 0, 5, 0, -1, 0, 6, 0, 0, 0, 0, 0, 0, 0};
    for (int i = 0; i < cells.length; i++) {
      Trial.due("peek(" + cells[i] + ")", t.units.peek(cells[i]), want[i]);
    }
  }

  private static void strays() {
    Sentence.says("How often a register of the machine held what it must not, or a word that is no instruction was met. In a right system never.");
    Trial t = new Trial();
    Trial.due("strays()", t.units.strays(), 0);
    t.go("int f(int n) { return n ? f(n - 1) : *(int *) n; } int main() { return f(99); }", 0, 999);
    Trial.due("strays()", t.units.strays(), 0);
    t.go("int f(int n) { return f(n - 1) + f(n); } int main() { return f(99); }", 3, 20000);
    Trial.due("strays()", t.units.strays(), 0);
    // All that one call can hold: each level as high and wide as texts allow, in as many calls.
    String wide = "1 || 1 && 0 | 0 ^ 0 & 0 == 0 < 0 << 0 + 0 * ";
    String deep = "int f(int a, int b, int c, int d, int e, int g, int h, int i) { return i ? 0 : 0 || 1 && 0 | 1 ^ 1 & 1 == 1 < 2 << 3 + 1 * f(1, 2, 3, 4, 5, 6, 7, "
        + "1 * f(1, 2, 3, 4, 5, 6, 7, f(1, 2, 3, 4, 5, 6, 7, 0))); } int main() { return f(1, 2, 3, 4, 5, 6, 7, 0) + (" + wide + "1); }";
    Trial.due("run", t.go(deep, 1, 20000), 3);
    Trial.due("strays()", t.units.strays(), 0);
  }
}
