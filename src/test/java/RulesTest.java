import java.io.IOException;
import java.lang.reflect.Array;
import java.lang.reflect.Constructor;
import java.lang.reflect.Field;
import java.lang.reflect.Method;
import java.lang.reflect.Modifier;
import java.nio.file.Files;
import java.nio.file.Path;
import java.util.HashSet;
import java.util.IdentityHashMap;
import java.util.List;
import java.util.Map;
import java.util.Set;
import java.util.regex.Matcher;
import java.util.regex.Pattern;

/** What LANGUAGE.md asks of the source, as far as a program can look at it, and the face. */
public final class RulesTest {
  private static final Set<String> FACE = Set.of("feed", "end", "compile", "place", "objects", "count", "name",
      "symbol", "pick", "link", "fault", "cell", "input", "run", "result", "turns", "trap", "written", "out",
      "peek", "strays");

  public static void main(String[] args) throws IOException, IllegalAccessException {
    face();
    classesInside();
    source(Files.readAllLines(Path.of("src/main/java/LinkedUnits.java")));
    room();
    nothingIsMadeByCalls();
    Trial.finish("RulesTest");
  }

  private static void face() {
    Class<?> c = LinkedUnits.class;
    Trial.due("the class is public and final", c.getModifiers() & ~Modifier.STRICT, Modifier.PUBLIC | Modifier.FINAL);
    Trial.due("public methods", c.getDeclaredMethods().length > 0 ? named(c, true) : 0, FACE.size());
    for (Method m : c.getDeclaredMethods()) {
      boolean isPublic = Modifier.isPublic(m.getModifiers());
      Trial.due(m.getName() + " is of the face or private", isPublic == FACE.contains(m.getName())
          && (isPublic || Modifier.isPrivate(m.getModifiers())) ? 1 : 0, 1);
      Trial.due(m.getName() + " answers an int", !isPublic || m.getReturnType() == int.class ? 1 : 0, 1);
    }
    for (Constructor<?> k : c.getDeclaredConstructors()) {
      Trial.due("the constructor is public", k.getModifiers(), Modifier.PUBLIC);
    }
    for (Field f : c.getDeclaredFields()) {
      Trial.due(f.getName() + " is private", Modifier.isPrivate(f.getModifiers()) ? 1 : 0, 1);
    }
  }

  private static int named(Class<?> c, boolean isPublic) {
    Set<String> names = new HashSet<>();
    for (Method m : c.getDeclaredMethods()) {
      if (Modifier.isPublic(m.getModifiers()) == isPublic) {
        names.add(m.getName());
      }
    }
    return names.size();
  }

  private static void classesInside() {
    Class<?>[] inside = LinkedUnits.class.getDeclaredClasses();
    Trial.due("some twelve classes", inside.length <= 12 ? 1 : 0, 1);
    for (Class<?> c : inside) {
      Trial.due(c + " is private and static", Modifier.isPrivate(c.getModifiers())
          && Modifier.isStatic(c.getModifiers()) ? 1 : 0, 1);
      int fields = 0;
      for (Field f : c.getDeclaredFields()) {
        boolean isStatic = Modifier.isStatic(f.getModifiers());
        Trial.due(c + "." + f.getName() + " is private, and final if static",
            Modifier.isPrivate(f.getModifiers()) && (!isStatic || Modifier.isFinal(f.getModifiers())) ? 1 : 0, 1);
        fields += isStatic ? 0 : 1;
      }
      Trial.due(c + " has some twenty fields: " + fields, fields <= 20 ? 1 : 0, 1);
      for (Method m : c.getDeclaredMethods()) {
        Trial.due(c + "." + m.getName() + " bears no public name", FACE.contains(m.getName()) ? 1 : 0, 0);
        Trial.due(c + "." + m.getName() + " takes at most seven", m.getParameterCount() <= 7 ? 1 : 0, 1);
      }
    }
  }

  private static void source(List<String> lines) {
    Pattern banned = Pattern.compile("\\b(throw|throws|try|catch|synchronized|assert|new Integer|lambda|float|double"
        + "|hashCode|toString|equals|Exact|package|volatile|native|protected)\\b|->|::|System\\.(out|err|in|nano|current)");
    Pattern head = Pattern.compile("^( {2}| {4})(private|public) (?!.*\\bclass\\b).*\\) \\{$");
    int begin = -1;
    int indent = 0;
    for (int i = 0; i < lines.size(); i++) {
      String line = lines.get(i);
      String code = line.replaceAll("^\\s*(/\\*\\*|\\*|//).*", "").replaceAll("\"[^\"]*\"", "");
      Trial.due("line " + (i + 1) + " keeps to the language: " + line, banned.matcher(code).find() ? 1 : 0, 0);
      Trial.due("line " + (i + 1) + " is plain", line.matches("[ -~]{0,120}") ? 1 : 0, 1);
      Matcher m = head.matcher(line);
      if (m.matches()) {
        begin = i;
        indent = m.group(1).length();
      } else if (begin >= 0 && line.equals(" ".repeat(indent) + "}")) {
        Trial.due(lines.get(begin) + " is short", i - begin < 60 ? 1 : 0, 1);
        begin = -1;
      }
      if (line.startsWith("import")) {
        Trial.due(line, line, "import java.util.Arrays;");
      }
    }
  }

  /** All that a new object reaches: well below 600,000 objects and 7.3 million elements. */
  private static void room() throws IllegalAccessException {
    Map<Object, Boolean> seen = new IdentityHashMap<>();
    long elements = reach(new LinkedUnits(), seen);
    Trial.due("objects and arrays: " + seen.size(), seen.size() < 2000 ? 1 : 0, 1);
    Trial.due("fields and elements: " + elements, elements < 1200000 ? 1 : 0, 1);
  }

  private static long reach(Object o, Map<Object, Boolean> seen) throws IllegalAccessException {
    if (o == null || o instanceof String || seen.put(o, true) != null) {
      return 0;
    }
    long n = 0;
    if (o.getClass().isArray()) {
      int length = Array.getLength(o);
      n = length;
      for (int i = 0; i < length && o instanceof Object[]; i++) {
        n += reach(((Object[]) o)[i], seen);
      }
      return n;
    }
    for (Field f : o.getClass().getDeclaredFields()) {
      if (!Modifier.isStatic(f.getModifiers())) {
        f.setAccessible(true);
        n++;
        n += f.getType().isPrimitive() ? 0 : reach(f.get(o), seen);
      }
    }
    return n;
  }

  private static void nothingIsMadeByCalls() {
    com.sun.management.ThreadMXBean bean =
        (com.sun.management.ThreadMXBean) java.lang.management.ManagementFactory.getThreadMXBean();
    byte[] text = ("void print(int); int a[] = { 1, 2 }; int f(int n) { return n ? n + f(n - 1) : 0; }"
        + " int main() { int i; for (i = 0; i < 9; i++) print(f(i) / 3 + a[1]); return i; }").getBytes();
    long made = 0;
    for (int round = 0; round < 2; round++) {
      Trial t = new Trial();
      t.bytes(text).units.compile(0);
      long before = bean.getThreadAllocatedBytes(Thread.currentThread().getId());
      for (int i = 1; i <= 90; i++) {
        t.bytes(text).units.compile(i % 4);
        t.units.pick(i);
        t.units.link();
        t.units.run(1000);
        t.units.trap(0);
        t.units.peek(i);
        t.units.cell();
      }
      made = bean.getThreadAllocatedBytes(Thread.currentThread().getId()) - before;
    }
    Trial.due("bytes made by 90 compiles and runs: " + made, made < 10000 ? 1 : 0, 1);
  }
}
