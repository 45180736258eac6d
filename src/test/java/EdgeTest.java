/** Every sentence of the document's terms and promises, with the edges that it names. */
public final class EdgeTest {
  public static void main(String[] args) throws java.io.IOException {
    EdgesOfTexts.ask();
    EdgesOfMeaning.ask();
    EdgesOfLinking.ask();
    EdgesOfRunning.ask();
    EdgesOfCalls.ask();
    Sentence.finish();
    Trial.finish("EdgeTest");
  }
}
