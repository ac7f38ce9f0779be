/** What the document says of the row that is gathered, recordings and counts, at its edges. */
final class RecordingEdges {
  private static final int NONE = Run.NONE, BAD = Run.BAD, STATE = Run.STATE, FULL = Run.FULL, LOST = Run.LOST;
  private static final int NOBODY = Run.NOBODY;

  private RecordingEdges() { }

  static void test(Sentences doc) {
    doc.test("RECORDINGS are numbered from 0 on, 12 at most", RecordingEdges::twelve);
    doc.test("a row of LINES (24 at most, some LOST)", RecordingEdges::rowOfTwentyFour);
    doc.test("It is SOUND as known, if the SCENE has a RUN that makes it, by the STOCK of that SINGER in that YEAR",
        RecordingEdges::sound);
    doc.test("FILLED: what a LOST one was, if it is one LINE in all such RUNS", RecordingEdges::filledIfOne);
    doc.test("LACKS: LINES in it that are not in that STOCK", RecordingEdges::lacks);
    doc.test("The i-th LINE (40: LOST) of the row that is gathered: how many it has then (i 0 begins it anew).",
        RecordingEdges::put);
    doc.test("NONE: line; BAD: i is not 0, or how many it has; FULL: 24.", RecordingEdges::putRefused);
    doc.test("RUNS of a SCENE that make the row that is gathered, by the STOCK of a SINGER in a YEAR as known.",
        RecordingEdges::runs);
    doc.test("NONE; BAD: year; STATE: the row is empty.", RecordingEdges::runsRefused);
    doc.test("FORGED in the row that is gathered: its place; -5: none. NONE; BAD; STATE likewise.",
        RecordingEdges::forged);
    doc.test("The row that is gathered is a RECORDING (it stays gathered): its number.", RecordingEdges::staysGathered);
    doc.test("NONE: singer, scene; BAD: year; STATE: the row is empty; FULL.", RecordingEdges::recordRefused);
    doc.test("Of a RECORDING as known what 0 whether it is SOUND (1, 0), 1 LACKS, 2 how many are LOST, 3 how many"
        + " LINES. NONE.", RecordingEdges::heard);
    doc.test("FILLED at a place of a RECORDING as known: the LINE; STATE: not one in all, or it is not SOUND.",
        RecordingEdges::filled);
    doc.test("NONE: it is not LOST there, too.", RecordingEdges::filledRefused);
    doc.test("0 HALVES, 1 LINES, 2 SCENES that are told, 3 SINGERS, 4 ENTRIES, 5 RECORDINGS, 6 bytes of THE TAPE,"
        + " 7 HALL, 8 LINES that SCAN. NONE.", RecordingEdges::counts);
  }

  private static Run oneSinger(Run x) {
    return x.lines("ab").singer(0, 0, 1).scene(0, "A=a");
  }

  private static void twelve(Run x) {
    oneSinger(x).row(0);
    for (int r = 0; r < 11; r++) x.due(r, "record", 0, 0, r);
    x.due(11, "count", 5).due(NONE, "heard", 11, -1, 0).row(0, LOST).due(11, "record", 0, 0, 5);
    x.due(12, "count", 5).due(2, "heard", 11, -1, 3).due(1, "heard", 10, -1, 3).due(FULL, "record", 0, 0, 5);
    x.due(12, "count", 5).due(NONE, "heard", 12, -1, 3).due(1, "heard", 0, -1, 3);
  }

  private static void rowOfTwentyFour(Run x) {
    oneSinger(x).due(1, "hall", 3).scene(1, "B={" + "a".repeat(8) + "}").scene(2, "C={" + "a".repeat(7) + "}[a][a]");
    x.row(0, 24, true).due(FULL, "put", 24, 0).due(0, "record", 0, 1, 0).due(24, "heard", 0, -1, 3);
    x.due(1, "heard", 0, -1, 0).due(1, "heard", 0, -1, 2).due(0, "filled", 0, -1, 23).due(NONE, "filled", 0, -1, 24);
    x.due(NONE, "filled", 0, -1, 22).row(0, 23, true).due(1, "record", 0, 2, 0).due(23, "heard", 1, -1, 3);
    x.due(1, "heard", 1, -1, 0).due(0, "filled", 1, -1, 22).due(NONE, "filled", 1, -1, 23).due(24, "heard", 0, -1, 3);
    x.row(LOST).due(2, "record", 0, 0, 0).due(1, "heard", 2, -1, 3).due(1, "heard", 2, -1, 2)
        .due(0, "filled", 2, -1, 0);
    for (int k = 0; k < 24; k++) x.due(k + 1, "put", k, LOST);
    x.due(3, "record", 0, 1, 0).due(24, "heard", 3, -1, 2).due(1, "heard", 3, -1, 0).due(0, "filled", 3, -1, 23);
    // The next one, which begins with a lost line, does not reach back.
    x.due(4, "record", 0, 1, 0).due(24, "heard", 3, -1, 2).due(NONE, "filled", 3, -1, 24)
        .due(NONE, "filled", 4, -1, -1);
  }

  private static void sound(Run x) {
    x.lines("aab").singer(0).singer(0, 0, 1, 2).scene(0, "A=a[b]").due(4, "learn", 0, 0, -1, 10);
    x.row(0).due(0, "record", 0, 0, 9).due(1, "record", 0, 0, 10).due(2, "record", 0, 0, 11).due(3, "record", 1, 0, 9);
    int[] sound = {0, 1, 1, 1};
    for (int r = 0; r < 4; r++) x.due(sound[r], "heard", r, -1, 0);
    x.due(0, "heard", 1, 3, 0).due(1, "heard", 1, 4, 0).due(1, "heard", 3, 3, 0).due(0, "heard", 3, 0, 0);
    x.due(5, "forget", 0, 0, 11).due(1, "heard", 1, -1, 0).due(0, "heard", 2, -1, 0).due(1, "heard", 2, 4, 0);
    // Sound needs a run of all the row, and no more.
    x.row(0, 2).due(4, "record", 1, 0, 0).row(0, 2, 2).due(5, "record", 1, 0, 0).row(2).due(6, "record", 1, 0, 0);
    x.due(1, "heard", 4, -1, 0).due(0, "heard", 5, -1, 0).due(0, "heard", 6, -1, 0);
    // By many runs it is sound, too.
    x.scene(0, "A=[[[a]]][[[b]]]{a}{b}").row(LOST, LOST).due(7, "record", 1, 0, 0).due(1, "heard", 7, -1, 0);
  }

  private static void filledIfOne(Run x) {
    x.lines("aabc").singer(0, 2, 3).scene(0, "A=a").scene(1, "B=(a|b)").scene(2, "C=(bc|cb)").scene(3, "D=(b|[b])");
    x.row(LOST).due(0, "record", 0, 0, 5).due(1, "record", 0, 1, 5).due(2, "record", 0, 3, 5);
    x.row(LOST, LOST).due(3, "record", 0, 2, 5).row(LOST, 2).due(4, "record", 0, 2, 5).row(LOST, 3)
        .due(5, "record", 0, 2, 5);
    // Of no line, of one, of two.
    x.due(STATE, "filled", 0, -1, 0).due(3, "learn", 0, 1, -1, 5).due(1, "filled", 0, -1, 0)
        .due(STATE, "filled", 1, -1, 0);
    x.due(2, "filled", 1, 2, 0).due(4, "learn", 0, 0, -1, 5).due(STATE, "filled", 0, -1, 0).due(1, "filled", 0, 3, 0);
    // Several runs, but one line in all.
    x.due(2, "filled", 2, -1, 0).due(STATE, "filled", 3, -1, 0).due(STATE, "filled", 3, -1, 1);
    x.due(3, "filled", 4, -1, 0).due(2, "filled", 5, -1, 0).due(5, "forget", 0, 3, 5).due(STATE, "filled", 4, -1, 0);
  }

  private static void lacks(Run x) {
    x.lines("aab").singer(0).singer(0, 0, 1, 2).scene(0, "A=a").row(0, 1, LOST, 2).due(0, "record", 0, 0, 5);
    x.due(3, "heard", 0, -1, 1).due(4, "learn", 0, 0, -1, 5).due(2, "heard", 0, -1, 1).due(3, "heard", 0, 3, 1);
    x.due(5, "learn", 0, 1, -1, 6).due(2, "heard", 0, -1, 1).due(6, "learn", 0, 2, -1, 4).due(1, "heard", 0, -1, 1);
    x.due(7, "learn", 0, 1, -1, 5).due(0, "heard", 0, -1, 1).due(1, "heard", 0, 6, 1).due(8, "forget", 0, 1, 5);
    x.due(1, "heard", 0, -1, 1).row(LOST, LOST).due(1, "record", 0, 0, 0).due(0, "heard", 1, -1, 1);
    // At each place where it stands.
    x.row(1, 1, LOST, 1).due(2, "record", 0, 0, 5).due(3, "heard", 2, -1, 1).due(0, "heard", 2, 7, 1);
  }

  private static void put(Run x) {
    x.lines("a".repeat(40)).singer(0, 39).scene(0, "A=a[a]").due(NONE, "put", 0, -1).due(NONE, "put", 0, 41);
    x.due(1, "put", 0, 39).due(1, "runs", 0, 0, 0, -1).due(2, "put", 1, 40).due(1, "runs", 0, 0, 0, -1);
    x.due(NONE, "put", 2, 41).due(3, "put", 2, 0).due(0, "runs", 0, 0, 0, -1).due(2, "forged", 0, 0, -1);
    x.due(1, "put", 0, 0).due(0, "forged", 0, 0, -1).due(BAD, "put", 3, 0).due(BAD, "put", 2, 0).due(2, "put", 1, 39);
    x.due(1, "put", 0, 39).due(1, "put", 0, 39).due(1, "put", 0, 40).due(2, "put", 1, 39).due(1, "runs", 0, 0, 0, -1);
    x.row(39, 24, false).due(FULL, "put", 24, 39).due(1, "put", 0, 39).due(2, "put", 1, 39).due(1, "runs", 0, 0, 0, -1);
  }

  private static void putRefused(Run x) {
    x.due(NONE, "put", 0, 0).due(1, "put", 0, LOST).due(NONE, "put", 1, 0).lines("ab").due(NONE, "put", 1, -1);
    x.due(2, "put", 1, 0).due(3, "put", 2, 1).due(NONE, "put", 3, 2).due(NONE, "put", 3, 39).due(4, "put", 3, 40);
    x.due(NONE, "put", 4, 41).due(BAD, "put", -1, 0).due(BAD, "put", 3, 0).due(BAD, "put", 5, 0).due(5, "put", 4, 0);
    x.due(NONE, "put", -1, 2).due(NONE, "put", 6, 41);
    for (int i = 5; i < 23; i++) x.due(i + 1, "put", i, 1);
    x.due(BAD, "put", 22, 0).due(BAD, "put", 24, 0).due(24, "put", 23, 0);
    x.due(BAD, "put", 23, 0).due(FULL, "put", 24, 0).due(FULL, "put", 24, LOST).due(BAD, "put", 25, 0);
    x.due(NONE, "put", 24, 2).due(BAD, "put", Integer.MAX_VALUE, 0).due(BAD, "put", Integer.MIN_VALUE, 0);
    x.due(NONE, "put", 24, Integer.MIN_VALUE).due(FULL, "put", 24, 0).due(1, "put", 0, 0).due(BAD, "put", 24, 0);
  }

  private static void runs(Run x) {
    x.lines("aab").singer(0).singer(0).scene(0, "A=[a]a").row(1).due(1, "learn", 0, 1, -1, 10)
        .due(2, "learn", 1, 1, -1, 20);
    int[][] want = {
      {0, 9, -1, 0}, {0, 10, -1, 1}, {0, 10, 0, 0}, {0, 10, 1, 1}, {1, 19, -1, 0}, {1, 20, -1, 1}, {1, 20, 1, 0}};
    for (int[] w : want) x.due(w[3], "runs", 0, w[0], w[1], w[2]);
    x.row(1, 1).due(1, "runs", 0, 0, 10, -1).row(1, 1, 1).due(0, "runs", 0, 0, 10, -1).row(2)
        .due(0, "runs", 0, 0, 10, -1);
    x.scene(1, "B=A").row(1).due(1, "runs", 1, 0, 10, -1).scene(1, "B=AA").due(0, "runs", 1, 0, 10, -1);
    x.row(1, 1).due(1, "runs", 1, 0, 10, -1).row(1, 1, 1).due(2, "runs", 1, 0, 10, -1).row(1, 1, 1, 1)
        .due(1, "runs", 1, 0, 10, -1);
  }

  private static void runsRefused(Run x) {
    x.lines("a").due(NONE, "runs", 0, 0, 0, -1).singer(0, 0).due(NONE, "runs", 0, 0, 0, -1).scene(0, "A=a")
        .scene(7, "H=a");
    x.due(STATE, "runs", 0, 0, 0, -1).due(BAD, "runs", 0, 0, -1, -1).due(BAD, "runs", 0, 0, 1000, -1);
    x.due(NONE, "runs", 0, 0, -1, 2).due(NONE, "runs", 1, 0, 1000, -1).row(0);
    x.due(NONE, "runs", -1, 0, 0, -1).due(1, "runs", 0, 0, 0, -1).due(NONE, "runs", 1, 0, 0, -1);
    x.due(NONE, "runs", 6, 0, 0, -1).due(1, "runs", 7, 0, 0, -1).due(NONE, "runs", 8, 0, 0, -1);
    x.due(NONE, "runs", 0, -1, 0, -1).due(NONE, "runs", 0, 1, 0, -1).edges("runs", 2, 0, 999, BAD, 0, 0, 0, -1);
    x.edges("runs", 3, -1, 1, NONE, 0, 0, 0, 0);
  }

  private static void forged(Run x) {
    x.lines("ab").due(NONE, "forged", 0, 0, -1).singer(0, 0).due(STATE, "forged", 0, 0, -1);
    x.due(BAD, "forged", 0, -1, -1).due(BAD, "forged", 0, 1000, -1).due(NONE, "forged", 1, -1, -1)
        .due(NONE, "forged", 0, -1, 2);
    x.row(0).due(NOBODY, "forged", 0, 0, -1).row(1).due(0, "forged", 0, 0, -1).row(0, 1).due(1, "forged", 0, 0, -1);
    x.edges("forged", 1, 0, 999, BAD, 0, 0, -1).edges("forged", 2, -1, 1, NONE, 0, 0, 0);
    x.due(NONE, "forged", -1, 0, -1).due(NONE, "forged", 1, 0, -1).due(0, "forged", 0, 0, 0);
  }

  private static void staysGathered(Run x) {
    oneSinger(x).scene(1, "B=a[b]").row(0).due(0, "record", 0, 1, 0).due(1, "runs", 1, 0, 0, -1).due(BAD, "put", 2, 0);
    x.due(2, "put", 1, 1).due(1, "record", 0, 1, 0).due(1, "heard", 0, -1, 3).due(2, "heard", 1, -1, 3);
    x.due(2, "record", 0, 1, 0).due(2, "heard", 2, -1, 3).due(1, "put", 0, LOST).due(2, "heard", 2, -1, 3);
    x.due(0, "heard", 1, -1, 2).due(0, "heard", 0, -1, 2).due(1, "heard", 0, -1, 0);
  }

  private static void recordRefused(Run x) {
    x.lines("a").due(NONE, "record", 0, 0, 0).singer(0, 0).due(NONE, "record", 0, 0, 0).scene(0, "A=a").scene(7, "H=a");
    x.due(STATE, "record", 0, 0, 0).due(BAD, "record", 0, 0, -1).due(BAD, "record", 0, 0, 1000)
        .due(NONE, "record", 1, 0, -1);
    x.due(NONE, "record", 0, 1, 1000).row(0).due(NONE, "record", -1, 0, 0).due(NONE, "record", 1, 0, 0);
    x.due(NONE, "record", 0, -1, 0).due(NONE, "record", 0, 1, 0).due(NONE, "record", 0, 6, 0)
        .due(NONE, "record", 0, 8, 0);
    x.due(0, "record", 0, 7, 0).edges("record", 2, 0, 999, BAD, 0, 0, 0).due(5, "count", 5);
    for (int r = 5; r < 12; r++) x.due(r, "record", 0, 0, 0);
    x.due(FULL, "record", 0, 0, 0).due(BAD, "record", 0, 0, -1).due(BAD, "record", 0, 0, 1000);
    x.due(NONE, "record", 0, 1, -1).due(NONE, "record", 1, 0, 0).due(12, "count", 5);
  }

  private static void heard(Run x) {
    oneSinger(x).due(NONE, "heard", 0, -1, 0).row(0).due(0, "record", 0, 0, 0).row(1, LOST, LOST)
        .due(1, "record", 0, 0, 0);
    int[][] want = {{NONE, 1, 0, 0, 1, NONE}, {NONE, 0, 0, 2, 3, NONE}};
    for (int r = 0; r < 2; r++) {
      for (int what = -1; what <= 4; what++) x.due(want[r][what + 1], "heard", r, -1, what);
    }
    x.due(1, "heard", 0, 0, 1).due(0, "heard", 0, 1, 1).due(NONE, "heard", -1, -1, 0).due(NONE, "heard", 2, -1, 0);
    for (int what = 0; what < 4; what++) x.edges("heard", 1, -1, 2, NONE, 0, 0, what)
        .edges("heard", 0, 0, 1, NONE, 0, -1, what);
    x.due(NONE, "heard", 0, -1, Integer.MAX_VALUE).due(NONE, "heard", Integer.MIN_VALUE, -1, 0);
  }

  private static void filled(Run x) {
    x.lines("aab").singer(0, 0).scene(0, "A=a[b]").row(LOST, LOST).due(0, "record", 0, 0, 7).row(LOST)
        .due(1, "record", 0, 0, 7);
    x.due(STATE, "filled", 0, -1, 0).due(STATE, "filled", 0, -1, 1).due(0, "filled", 1, -1, 0)
        .due(STATE, "filled", 1, 0, 0);
    x.due(2, "learn", 0, 2, -1, 7).due(0, "filled", 0, -1, 0).due(2, "filled", 0, -1, 1).due(STATE, "filled", 0, 1, 1);
    x.due(3, "learn", 0, 1, -1, 8).due(0, "filled", 0, -1, 0).due(4, "learn", 0, 1, -1, 7)
        .due(STATE, "filled", 0, -1, 0);
    x.due(2, "filled", 0, -1, 1).due(0, "filled", 0, 3, 0).due(5, "forget", 0, 0, 7).due(1, "filled", 0, -1, 0);
    // By the hall and the scene as they are now.
    x.scene(0, "A={a}b").due(1, "filled", 0, -1, 0).due(1, "hall", 0).due(STATE, "filled", 0, -1, 0);
  }

  private static void filledRefused(Run x) {
    oneSinger(x).due(NONE, "filled", 0, -1, 0).scene(1, "B=aab").row(LOST, 0, LOST).due(0, "record", 0, 1, 0);
    x.due(NONE, "filled", 0, -1, -1).due(0, "filled", 0, -1, 0).due(NONE, "filled", 0, -1, 1)
        .due(1, "filled", 0, -1, 2);
    x.due(NONE, "filled", 0, -1, 3).due(NONE, "filled", -1, -1, 0).due(NONE, "filled", 1, -1, 0);
    x.due(NONE, "filled", 0, -2, 0).due(STATE, "filled", 0, 0, 0).due(STATE, "filled", 0, 1, 0)
        .due(0, "filled", 0, 2, 0);
    x.due(NONE, "filled", 0, 3, 0).due(NONE, "filled", 0, 0, 1).due(NONE, "filled", 0, 0, -1)
        .due(NONE, "filled", 0, 0, 3);
    x.due(NONE, "filled", 0, -1, Integer.MAX_VALUE).due(NONE, "filled", 0, -1, Integer.MIN_VALUE);
    // A longer recording in front does not reach into a shorter one.
    x.row(LOST, LOST, LOST, LOST).due(1, "record", 0, 1, 0).row(LOST).due(2, "record", 0, 0, 0);
    x.due(NONE, "filled", 2, -1, 1).due(0, "filled", 2, -1, 0).due(STATE, "filled", 1, -1, 3)
        .due(NONE, "filled", 1, -1, 4);
  }

  private static void counts(Run x) {
    int[] none = {NONE, 0, 0, 0, 0, 0, 0, 0, 1, 0, NONE};
    for (int what = -1; what <= 9; what++) x.due(none[what + 1], "count", what);
    oneSinger(x).row(0).due(0, "record", 0, 0, 0).feed("B=a[b").due(1, "hall", 3).due(2, "half", 5, 0, -1);
    x.due(2, "line", 0, 2, 0, 0, 0);
    int[] some = {NONE, 3, 3, 1, 1, 2, 1, 5, 3, 2, NONE};
    for (int what = -1; what <= 9; what++) x.due(some[what + 1], "count", what);
    x.due(6, "metre", 1, 5).due(1, "count", 8).due(4, "metre", 0, 5).due(0, "count", 8);
    x.due(-1005, "scene").due(0, "count", 6).due(1, "count", 2).scene(1, "B=A").due(2, "count", 2).scene(1, "B=a")
        .due(2, "count", 2);
    x.due(NONE, "count", Integer.MIN_VALUE).due(NONE, "count", Integer.MAX_VALUE);
  }
}
