/** Promises 1 to 3: a new object, feed and end. */
public final class TrayTest {
  public static void main(String[] args) {
    newObject();
    feeding();
    ending();
    limits();
    Trial.finish("TrayTest");
  }

  private static void newObject() {
    LinkedUnits x = new LinkedUnits();
    Trial.due("objects()", x.objects(), 0);
    Trial.due("place()", x.place(), -1);
    Trial.due("count(1, 0)", x.count(1, 0), -1);
    Trial.due("name(1, 0, 0)", x.name(1, 0, 0), -1);
    Trial.due("symbol(1, 0)", x.symbol(1, 0), -1);
    Trial.due("pick(1)", x.pick(1), -1);
    Trial.due("fault(0)", x.fault(0), -1);
    Trial.due("fault(1)", x.fault(1), -1);
    Trial.due("cell()", x.cell(), -1);
    Trial.due("run(1)", x.run(1), -1);
    Trial.due("run(-1)", x.run(-1), -1);
    Trial.due("result()", x.result(), 0);
    Trial.due("turns()", x.turns(), 0);
    Trial.due("trap(0)", x.trap(0), 0);
    Trial.due("trap(1)", x.trap(1), 0);
    Trial.due("written()", x.written(), 0);
    Trial.due("out(0)", x.out(0), -1);
    Trial.due("peek(16)", x.peek(16), 0);
    Trial.due("strays()", x.strays(), 0);
    Trial.due("link()", x.link(), -34);
    Trial.due("end(0)", x.end(0), 0);
    Trial.due("end(1)", x.end(1), -1);
  }

  private static void feeding() {
    LinkedUnits x = new LinkedUnits();
    Trial.due("feed", x.feed(0x696e7420, 0x613b0a20, 0x20202020, 0x20202020, 0x20202020), 20);
    Trial.due("feed", x.feed(0x2f2f2020, 0x20202020, 0x20202020, 0x20202020, 0x2020207e), 40);
    Trial.due("compile(0)", x.compile(0), 1);
    Trial.due("name(1, 0, 0)", x.name(1, 0, 0), 'a');
    Trial.due("a text is used up", x.end(1), -1);
    Trial.due("bytes above 127", x.feed(-1, -1, -1, -1, -1), 20);
    Trial.due("compile(0)", x.compile(0), -21);
    Trial.due("place()", x.place(), 0);
  }

  private static void ending() {
    LinkedUnits x = new LinkedUnits();
    x.feed(0x696e7420, 0x613b6162, 0x63646566, 0, 0);
    Trial.due("end(-1)", x.end(-1), -1);
    Trial.due("end(21)", x.end(21), -1);
    Trial.due("end(MIN)", x.end(Integer.MIN_VALUE), -1);
    Trial.due("end(MAX)", x.end(Integer.MAX_VALUE), -1);
    Trial.due("end(20)", x.end(20), 20);
    Trial.due("end(6)", x.end(6), 6);
    Trial.due("end(7)", x.end(7), -1);
    Trial.due("feed behind end", x.feed(0x20202020, 0x20202020, 0x20202020, 0x20202020, 0x20202020), 26);
    Trial.due("compile(0)", x.compile(0), 1);
  }

  private static void limits() {
    LinkedUnits x = new LinkedUnits();
    for (int i = 1; i <= 800; i++) {
      Trial.due("feed " + i, x.feed(i, i, i, i, i), 20 * i);
    }
    Trial.due("feed above 16000", x.feed(0, 0, 0, 0, 0), -1);
    Trial.due("end(15981)", x.end(15981), 15981);
    Trial.due("feed above 16000", x.feed(0, 0, 0, 0, 0), -1);
    Trial.due("end(15980)", x.end(15980), 15980);
    Trial.due("feed to 16000", x.feed(0, 0, 0, 0, 0), 16000);
    LinkedUnits y = new LinkedUnits();
    for (int i = 1; i <= 3276; i++) {
      Trial.due("feed " + i, y.feed(0, 0, 0, 0, 0), 20);
      y.end(0);
    }
    Trial.due("feed above 65536 in all", y.feed(0, 0, 0, 0, 0), -1);
    Trial.due("end(0)", y.end(0), 0);
  }
}
