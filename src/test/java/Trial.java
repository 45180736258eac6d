/** A fresh LinkedUnits with words for what the tests do again and again; counts wrong answers. */
final class Trial {
  private static int wrong = 0;
  private static int asked = 0;

  final LinkedUnits units = new LinkedUnits();

  /** Puts a text into the tray. */
  Trial text(String text) {
    byte[] bytes = new byte[text.length()];
    for (int i = 0; i < bytes.length; i++) {
      bytes[i] = (byte) text.charAt(i);
    }
    return bytes(bytes);
  }

  Trial bytes(byte[] bytes) {
    units.end(0);
    for (int i = 0; i < bytes.length; i += 20) {
      units.feed(four(bytes, i), four(bytes, i + 4), four(bytes, i + 8), four(bytes, i + 12),
          four(bytes, i + 16));
    }
    units.end(bytes.length);
    return this;
  }

  private static int four(byte[] bytes, int from) {
    int value = 0;
    for (int i = from; i < from + 4; i++) {
      value = value << 8 | (i < bytes.length ? bytes[i] & 255 : 0);
    }
    return value;
  }

  int compile(String text, int level) {
    return text(text).units.compile(level);
  }

  /** Compiles, links and runs one unit: the outcome, or the first call's answer that is a fault. */
  int go(String text, int level, int fuel) {
    int o = compile(text, level);
    if (o < 0) {
      return o;
    }
    units.pick(o);
    int linked = units.link();
    return linked < 0 ? linked : units.run(fuel);
  }

  Trial give(String bytes) {
    for (int i = 0; i < bytes.length(); i++) {
      units.input(bytes.charAt(i));
    }
    return this;
  }

  String printed() {
    StringBuilder all = new StringBuilder();
    for (int i = 0; i < units.written(); i++) {
      all.append((char) units.out(i));
    }
    return all.toString();
  }

  int cell(String name) {
    return text(name).units.cell();
  }

  String nameOf(int o, int s) {
    StringBuilder all = new StringBuilder();
    for (int i = 0; units.name(o, s, i) >= 0; i++) {
      all.append((char) units.name(o, s, i));
    }
    return all.toString();
  }

  static void due(String what, long got, long want) {
    asked++;
    if (got != want) {
      wrong++;
      System.out.println(what + ": answered " + got + ", due is " + want);
    }
  }

  static void due(String what, String got, String want) {
    asked++;
    if (!got.equals(want)) {
      wrong++;
      System.out.println(what + ": answered \"" + got + "\", due is \"" + want + "\"");
    }
  }

  /** A unit's fault and its place, at every level alike; the mark ^ stands before the place. */
  static void fault(int kind, String marked) {
    int place = marked.indexOf('^');
    faultAt(kind, place, marked.substring(0, place) + marked.substring(place + 1));
  }

  static void faultAt(int kind, int place, String text) {
    for (int level = 0; level <= 3; level++) {
      Trial t = new Trial();
      due("compile(" + level + ") of " + text, t.compile(text, level), -20 - kind);
      due("place() of " + text, t.units.place(), place);
    }
  }

  /** A unit without a fault. */
  static void right(String text) {
    for (int level = 0; level <= 3; level++) {
      Trial t = new Trial();
      due("compile(" + level + ") of " + text, t.compile(text, level), 1);
      due("place() of " + text, t.units.place(), -1);
    }
  }

  /** What main gives with much fuel, at every level. */
  static void gives(int result, String text) {
    ends(0, result, "", text);
  }

  /** How a run ends, what it gives and what it prints, at every level. */
  static void ends(int outcome, int result, String printed, String text) {
    for (int level = 0; level <= 3; level++) {
      Trial t = new Trial();
      due("run of " + text, t.go(text, level, 20000), outcome);
      due("result() of " + text, t.units.result(), result);
      due("out() of " + text, t.printed(), printed);
      due("strays() of " + text, t.units.strays(), 0);
    }
  }

  /** A trap and its line, at every level. */
  static void traps(int kind, int line, String text) {
    for (int level = 0; level <= 3; level++) {
      Trial t = new Trial();
      due("run of " + text, t.go(text, level, 20000), kind);
      due("trap(0) of " + text, t.units.trap(0), line == 0 ? 0 : 1);
      due("trap(1) of " + text, t.units.trap(1), line);
      due("strays() of " + text, t.units.strays(), 0);
    }
  }

  /** A body of main around statements, for units that are all about these. */
  static String main(String statements) {
    return "int main() { " + statements + " }";
  }

  /** How many answers were asked so far. */
  static int asked() {
    return asked;
  }

  static void finish(String name) {
    System.out.println(name + ": " + asked + " answers, " + wrong + " wrong");
    System.exit(wrong == 0 && asked > 0 ? 0 : 1);
  }
}
