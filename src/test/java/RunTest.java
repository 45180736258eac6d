/** Outcomes, results and traps: promises 15 to 22. */
public final class RunTest {
  public static void main(String[] args) {
    Trial.gives(7, "int main() { return 1 + 2 * 3; }");
    Trial.finish("RunTest");
  }
}
