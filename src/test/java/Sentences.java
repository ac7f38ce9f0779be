import java.util.ArrayList;
import java.util.Comparator;
import java.util.List;
import java.util.function.Consumer;

/** The document's sentences that name an edge, each with a test of its own. */
final class Sentences {
  private static final int PROMISES = 32;
  private final Check check;
  private final String document;
  private final List<String> told = new ArrayList<>();

  Sentences(Check check, String document) {
    this.check = check;
    this.document = plain(document);
  }

  private static String plain(String text) {
    return text.replaceAll("\\s+", " ");
  }

  /** Tests a sentence, told in the document's own words, on a new object. */
  void test(String words, Consumer<Run> edges) {
    told.add(words);
    check.about(words);
    check.holds("the document says so", document.contains(plain(words)));
    edges.accept(new Run(check));
  }

  int many() {
    return told.size();
  }

  /** Of a promise nothing but its head is left when the sentences that are tested are taken away. */
  void allPromisesAreTold() {
    check.about("all promises");
    for (int promise = 1; promise <= PROMISES; promise++) {
      String left = untold(section(promise));
      check.holds("all of promise " + promise + " is tested: " + left, left.matches("## Promise \\d+: [\\w ]+ `[^`]+`: *"));
    }
  }

  private String section(int promise) {
    int from = document.indexOf("## Promise " + promise + ":");
    int to = document.indexOf("## ", from + 3);
    return from < 0 || to < 0 ? "" : document.substring(from, to);
  }

  private String untold(String section) {
    List<String> longestFirst = new ArrayList<>(told);
    longestFirst.sort(Comparator.comparingInt(String::length).reversed());
    String left = section;
    for (String words : longestFirst) left = left.replace(plain(words), "");
    return left;
  }
}
