import java.util.ArrayList;
import java.util.List;
import java.util.function.Consumer;

/** The document's sentences that name an edge, each with a test of its own. */
final class Sentences {
  private static final int PROMISES = 32;
  private final Check check;
  private final String document;
  private final List<String> told = new ArrayList<>();

  Sentences(Check check, String document) {
    this.check = check;
    this.document = plain(document);
  }

  private static String plain(String text) {
    return text.replaceAll("\\s+", " ");
  }

  /** Tests a sentence, told in the document's own words, on a new object. */
  void test(String words, Consumer<Run> edges) {
    told.add(words);
    check.about(words);
    check.holds("the document says so", document.contains(plain(words)));
    edges.accept(new Run(check));
  }

  int many() {
    return told.size();
  }

  /** No promise is left without a sentence. */
  void allPromisesAreTold() {
    check.about("all promises");
    for (int promise = 1; promise <= PROMISES; promise++) {
      check.holds("promise " + promise + " has a sentence that is tested", isTold(section(promise)));
    }
  }

  private String section(int promise) {
    int from = document.indexOf("## Promise " + promise + ":");
    int to = document.indexOf("## ", from + 3);
    return from < 0 || to < 0 ? "" : document.substring(from, to);
  }

  private boolean isTold(String section) {
    for (String words : told) {
      if (section.contains(plain(words))) return true;
    }
    return false;
  }
}
