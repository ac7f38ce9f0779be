import java.util.ArrayList;
import java.util.Comparator;
import java.util.List;
import java.util.function.Consumer;

/** The document's sentences that name an edge, each with a test of its own. */
final class Sentences {
  private static final int PROMISES = 32;
  /** Words of the terms that only say what the ones behind them are about, or what RefusalTest is about. */
  private static final String[] HEADS = {
    "and perhaps a GAP for a NAME", "(a wrong word that singers hand on)", "METRE:", ", and .",
    "TO SWAP a HERO for another NAME:", "FAULT:", "each choice:", "SUNG by a number:", "READ BACK:",
    "STOCK of a SINGER in a YEAR", "MASTER of a SINGER in a YEAR as known:", "LOAN of two SINGERS:",
    "FORGED in a row of LINES for a SINGER:", "a SINGER, a SCENE, a YEAR,", "whose song:",
    "REFUSALS, of several the first one told: NONE there is no such HALF, NAME, LINE, SLOT, SCENE, SINGER, RECORDING,"
        + " ENTRY, place, what, i; BAD a number is not as told; STATE as told; FULL. They change nothing."};
  private final Check check;
  private final String document;
  private final List<String> told = new ArrayList<>();

  Sentences(Check check, String document) {
    this.check = check;
    this.document = plain(document);
  }

  private static String plain(String text) {
    return text.replaceAll("\\s+", " ");
  }

  /** Tests a sentence, told in the document's own words, on a new object. */
  void test(String words, Consumer<Run> edges) {
    told.add(words);
    check.about(words);
    check.holds("the document says so", document.contains(plain(words)));
    edges.accept(new Run(check));
  }

  int many() {
    return told.size();
  }

  /** Of a promise nothing but its head is left when the sentences that are tested are taken away. */
  void allPromisesAreTold() {
    check.about("all promises");
    for (int promise = 1; promise <= PROMISES; promise++) {
      String left = untold(section(promise));
      check.holds("all of promise " + promise + " is tested: " + left, left.matches("## Promise \\d+: [\\w ]+ `[^`]+`: *"));
    }
  }

  /** Of the terms nothing but heads and the signs between sentences is left. */
  void allTermsAreTold() {
    check.about("all terms");
    String left = untold(between("## Terms", " Ahead of the calls"));
    for (String head : HEADS) left = left.replace(head, "");
    check.holds("all of the terms is tested: " + left, left.replaceAll("```(text)?|======== [2-5]", "")
        .matches("## Terms[ ,;.:()]*"));
  }

  private String section(int promise) {
    return between("## Promise " + promise + ":", "## ");
  }

  private String between(String first, String next) {
    int from = document.indexOf(first);
    int to = from < 0 ? -1 : document.indexOf(next, from + first.length());
    return to < 0 ? "" : document.substring(from, to);
  }

  private String untold(String section) {
    List<String> longestFirst = new ArrayList<>(told);
    longestFirst.sort(Comparator.comparingInt(String::length).reversed());
    String left = section;
    for (String words : longestFirst) left = left.replace(plain(words), "");
    return left;
  }
}
