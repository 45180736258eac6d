import java.nio.file.Files;
import java.nio.file.Path;
import java.util.ArrayList;
import java.util.List;

/** Keeps the edge tests to the document: which of its sentences they ask, and which they leave out. */
final class Sentence {
  private static final Path DOCUMENT = Path.of("../shared/DOC.md");
  /** No byte of the document. */
  private static final String GAP = "\u0001";
  private static final List<String> SAID = new ArrayList<>();
  private static int askedBefore = 0;

  private Sentence() {
  }

  /** The answers that are asked from here on, up to the next sentence, are due by these words. */
  static void says(String words) {
    close();
    SAID.add(words);
    askedBefore = Trial.asked();
  }

  private static void close() {
    if (!SAID.isEmpty() && Trial.asked() == askedBefore) {
      Trial.due("answers asked for: " + SAID.get(SAID.size() - 1), 0, 1);
    }
  }

  /**
   * Tells what of the document no test quotes. That is only told, not a failure: a document that
   * gets other words must not keep a right program from landing.
   */
  static void finish() throws java.io.IOException {
    close();
    if (!Files.exists(DOCUMENT)) {
      System.out.println("note: " + DOCUMENT + " is not there");
      return;
    }
    String text = Files.readString(DOCUMENT);
    int begin = Math.max(text.indexOf("## Terms"), 0);
    int end = text.indexOf("## Not promised");
    String left = plain(text.substring(begin, end < begin ? text.length() : end));
    for (String words : SAID) {
      int at = left.indexOf(plain(words));
      if (at < 0) {
        System.out.println("note: not in the document: " + words);
      } else {
        left = left.substring(0, at) + GAP + left.substring(at + plain(words).length());
      }
    }
    for (String rest : left.split(GAP)) {
      if (rest.matches(".*[A-Za-z0-9=*&].*")) {
        System.out.println("note: no edge test of: " + rest.trim());
      }
    }
    System.out.println("EdgeTest: " + SAID.size() + " sentences");
  }

  /** Without headings, faces of methods and the breaks of lines. */
  private static String plain(String text) {
    return text.replaceAll("## [^\\n]*\\n", "").replaceAll("`[^`\\n]*\\(.*\\)`:", "")
        .replace("```text", "").replace("```", "").replaceAll("\\s+", " ").trim();
  }
}
