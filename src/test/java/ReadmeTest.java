import java.io.IOException;
import java.nio.charset.StandardCharsets;
import java.nio.file.DirectoryStream;
import java.nio.file.Files;
import java.nio.file.Path;
import java.util.Set;
import java.util.TreeSet;
import java.util.regex.Matcher;
import java.util.regex.Pattern;

/** README.md: that it tells each call as the document does, and that its example answers as told. */
public final class ReadmeTest {
  private static final Check check = new Check("ReadmeTest");
  private static final int CALLS = 31;
  private static final String[] REFUSALS = {"NONE", "BAD", "STATE", "FULL"};

  private ReadmeTest() { }

  public static void main(String[] args) throws IOException {
    String document = read(args[1]);
    String readme = read(args[2]);
    tellsEachCall(document, readme);
    tellsTheRefusals(readme);
    answersAsTold(readme);
    namesEachTest(readme);
    check.end();
  }

  private static String read(String file) throws IOException {
    return Files.readString(Path.of(file), StandardCharsets.UTF_8);
  }

  /** A row for each call of the face: its arguments, what it takes and answers, and the promise's refusals. */
  private static void tellsEachCall(String document, String readme) {
    Matcher promise = Pattern.compile("(?m)^`int (\\w+\\([^)]*\\))`: (.*)$").matcher(document);
    int calls = 0;
    while (promise.find()) {
      calls++;
      String call = promise.group(1);
      check.about(call);
      Matcher row = Pattern.compile("(?m)^\\| `" + Pattern.quote(call) + "` \\| ([^|]+) \\| ([^|]+) \\| ([^|]*)\\|$")
          .matcher(readme);
      boolean stands = row.find();
      check.holds("it has a row", stands);
      check.holds("it has one row", !stands || !readme.substring(row.end()).contains("| `" + call + "`"));
      check.holds("its refusals are the promise's",
          stands && refusals(row.group(3)).equals(refusals(promise.group(2))));
      check.holds("the example shows it", readme.contains("\nx." + call.substring(0, call.indexOf('(') + 1)));
    }
    check.about("all calls");
    check.due("calls", calls, CALLS);
  }

  private static Set<String> refusals(String text) {
    Set<String> found = new TreeSet<>();
    for (String refusal : REFUSALS) {
      if (Pattern.compile("\\b" + refusal + "\\b").matcher(text).find()) found.add(refusal);
    }
    return found;
  }

  private static void tellsTheRefusals(String readme) {
    int[] values = {LongSong.NONE, LongSong.BAD, LongSong.STATE, LongSong.FULL};
    check.about("refusals");
    int before = 0;
    for (int k = 0; k < REFUSALS.length; k++) {
      int at = readme.indexOf("| `" + REFUSALS[k] + "` | " + values[k] + " |");
      check.holds(REFUSALS[k] + " stands with its value, in the document's order", at > before);
      before = at;
    }
  }

  /** The example's lines, "x.call(1, 2L);  // answer: why", all asked of one object. */
  private static void answersAsTold(String readme) {
    check.about("the example");
    Run run = new Run(check);
    Matcher line = Pattern.compile("(?m)^x\\.(\\w+)\\(([^)]*)\\);\\s+// (-?\\d+)(?::.*)?$").matcher(readme);
    while (line.find()) run.due(Integer.parseInt(line.group(3)), line.group(1), numbers(line.group(2)));
    long told = readme.lines().filter(l -> l.startsWith("x.")).count();
    check.due("calls that were asked", run.calls(), told);
    check.holds("all calls are shown", told >= CALLS);
  }

  private static long[] numbers(String args) {
    if (args.isEmpty()) return new long[0];
    String[] parts = args.split(", ");
    long[] all = new long[parts.length];
    for (int k = 0; k < parts.length; k++) all[k] = Long.decode(parts[k].replace("L", ""));
    return all;
  }

  private static void namesEachTest(String readme) throws IOException {
    check.about("tests");
    check.holds(".ci/run is named", readme.contains(".ci/run"));
    check.holds("../shared/tests is named", readme.contains("../shared/tests"));
    int tests = 0;
    try (DirectoryStream<Path> all = Files.newDirectoryStream(Path.of("src/test/java"), "*Test.java")) {
      for (Path test : all) {
        tests++;
        check.holds(test + " is named", readme.contains("`src/test/java/" + test.getFileName() + "`"));
      }
    }
    check.holds("there are tests", tests > 0);
  }
}
