import java.util.HashMap;
import java.util.List;
import java.util.Map;
import java.util.function.Consumer;

/**
 * Each call and each refusal that it tells: that it is answered, that of several the first one told is answered,
 * and that it changes nothing: the object is then held against one that was not asked.
 */
public final class RefusalTest {
  private static final int NONE = Run.NONE, BAD = Run.BAD, STATE = Run.STATE, FULL = Run.FULL, LOST = Run.LOST;
  private static final int LEAST = Integer.MIN_VALUE, MOST = Integer.MAX_VALUE;
  private static final Check check = new Check("RefusalTest");
  private static final Map<String, List<String>> untouched = new HashMap<>();

  private RefusalTest() { }

  public static void main(String[] args) {
    verse();
    scenes();
    singers();
    stocks();
    recordings();
    full();
    looksChangeNothing();
    check.end();
  }

  // ---- objects to ask

  /** Something of everything but rows: 6 halves, 6 lines, 2 broken, 3 scenes, 4 singers, 12 entries, a song. */
  private static void withoutRow(Run x) {
    x.taken("half", 4, 5, -1).taken("half", 6, 9, -1).taken("half", 3, 1, 1).taken("half", 5, 3, 5)
        .taken("half", 2, 3, 0);
    x.taken("half", 5, 21, 2).taken("name", 1, 2, 3).taken("name", 2, 4, 9).taken("metre", 2, 1);
    x.taken("line", 2, 1, 0, 0, 1).taken("line", 0, 1, 0, 1, 1).taken("line", 0, 3, 1, 0, 1)
        .taken("line", 4, 1, 1, 1, 0);
    x.taken("line", 3, 3, 2, 3, 1).taken("line", 5, 5, 2, 3, 0).taken("metre", 0, 5).taken("swap", 3, 2)
        .taken("metre", 0, 4);
    x.scene(0, "A=a[b]").scene(1, "B={A}(b|c)").scene(3, "D=c").taken("hall", 2).feed("C=[a]{b}");
    x.singer(10, 0, 1, 2).singer(20, 0, 3).singer(20, 2).singer(5);
    x.taken("learn", 3, 4, 0, 21).taken("forget", 0, 1, 25).taken("learn", 1, 2, 0, 28).taken("learn", 0, 4, -1, 9);
    x.taken("learn", 2, 0, 1, 26).taken("learn", 0, 3, 1, 22).taken("village", 0, 3).taken("village", 1, 8);
    x.due(3, "sing", 1, 0, 24, 1 + 3 * (1 + 2 * (1 + 2 * 1)));
  }

  /** And rows: one that is gathered, and three recordings. */
  private static void rich(Run x) {
    withoutRow(x);
    x.row(LOST).taken("record", 0, 0, 30).row(0, 3, 5, LOST).taken("record", 1, 1, 22);
    x.row(0, LOST, 0, 4).taken("record", 0, 1, 30);
  }

  private static void richWithFullHalves(Run x) {
    rich(x);
    for (int h = 6; h < 40; h++) x.due(h, "half", 1 + h % 8, 1, -1);
  }

  private static void richWithFullLines(Run x) {
    rich(x);
    for (int l = 6; l < 40; l++) x.due(l, "line", 2, 1, 7, 9, 0);
  }

  private static void richWithFullTape(Run x) {
    rich(x);
    for (int k = 0; k < 6; k++) x.taken("feed", 0x6161616161616161L, 8);
    x.due(60, "feed", 0x61616161, 4);
  }

  private static void richWithFullSingers(Run x) {
    rich(x);
    for (int s = 4; s < 8; s++) x.due(s, "singer", 10 * s);
  }

  private static void richWithFullBook(Run x) {
    rich(x);
    for (int e = 13; e <= 200; e++) x.due(e, "learn", e % 4, e % 6, -1, 31 + e % 50);
  }

  private static void richWithFullShelf(Run x) {
    rich(x);
    for (int r = 3; r < 12; r++) x.due(r, "record", 0, 0, r);
  }

  private static void richWithFullRow(Run x) {
    rich(x);
    x.row(0, 24, true);
  }

  private static void fresh(Run x) { }

  // ---- how they are asked

  private static Refusals call(String call, long... good) {
    return new Refusals(call, good);
  }

  private static void ask(String name, Consumer<Run> made, Refusals refusals) {
    check.about(name + ", " + refusals.call);
    List<String> want = untouched.get(name);
    if (want == null) {
      Run run = new Run(check);
      made.accept(run);
      want = Portrait.of(run);
      untouched.put(name, want);
    }
    List<Refusals.Refused> all = refusals.all();
    check.holds("something is refused", !all.isEmpty());
    for (Refusals.Refused refused : all) {
      Run run = new Run(check);
      made.accept(run);
      run.due(refused.due(), refusals.call, refused.args());
      compare(Run.text(refusals.call, refused.args()), want, Portrait.of(run));
    }
  }

  private static void compare(String call, List<String> want, List<String> got) {
    int same = 0;
    while (same < want.size() && same < got.size() && want.get(same).equals(got.get(same))) same++;
    boolean all = same == want.size() && same == got.size();
    check.holds(all ? "" : call + " changed " + (same < got.size() ? got.get(same) : "how much there is"), all);
  }

  private static void ask(Refusals refusals) {
    ask("rich", RefusalTest::rich, refusals);
  }

  // ---- the calls

  private static void verse() {
    ask(call("half", 4, 5, 2).bad(0, 0, 9, -1, 33, LEAST, MOST).bad(1, -1, 256, LEAST, MOST)
        .bad(2, -2, 9, LEAST, MOST));
    ask(call("half", 4, 16, 5).anyway(BAD));
    ask(call("half", 4, 16, 0).anyway(BAD));
    ask(call("half", 4, 0, 5).anyway(BAD));
    ask(call("name", 1, 2, 3).none(0, -1, 10, LEAST, MOST).bad(1, 0, 5, -1, LEAST, MOST).bad(2, -1, 16, LEAST, MOST));
    ask(call("name", 1, 2, 4).none(0, -1, 10).anyway(BAD));
    ask(call("line", 0, 1, 0, 0, 1).none(0, -1, 6, LEAST, MOST).none(1, -1, 6, 40).none(2, -1, 8).none(3, -1, 10)
        .bad(4, -1, 2, MOST));
    ask(call("line", 0, 1, 7, 9, 0).none(2, LEAST, MOST).none(3, LEAST, MOST).bad(4, LEAST, MOST));
    ask(call("metre", 0, 5).none(0, -1, 3, LEAST, MOST).bad(1, 0, 13, -1, LEAST, MOST));
    ask(call("metre", 1, 5).none(0, -1, 3, LEAST, MOST).bad(1, 0, 13, -1, LEAST, MOST));
    ask(call("metre", 2, 5).none(0, -1, 3, LEAST, MOST).bad(1, -1, 1 << 24, LEAST, MOST));
    ask(call("told", 0, 0).none(0, -1, 6, 40, LEAST, MOST).none(1, -1, 8, LEAST, MOST));
    ask(call("swap", 0, 1).none(0, -1, 10, LEAST, MOST).none(1, -1, 10, LEAST, MOST));
    for (int n = 0; n < 10; n++) ask(call("swap", n, n).none(0, -1, 10).none(1, -1, 10).anyway(BAD));
    ask(call("broken", 0).none(0, -2, 2, LEAST, MOST));
  }

  private static void scenes() {
    ask(call("feed", 'a', 1).bad(1, 0, 9, -1, LEAST, MOST));
    ask(call("feed", -1, 0).anyway(BAD));
    ask(call("hall", 1).bad(0, -1, 4, LEAST, MOST));
    // Scene D is of slot c, of which singer 1 has no line; singer 0 has one from year 9 on.
    ask(call("sing", 1, 0, 30, 7).none(0, -1, 2, 4, 8, LEAST, MOST).none(1, -1, 4, 8, LEAST, MOST)
        .bad(2, -1, 1000, LEAST, MOST)
        .bad(3, -1, Long.MIN_VALUE));
    ask(call("sing", 3, 1, 30, 0).none(0, -1, 2).none(1, -1, 4).bad(2, -1, 1000).bad(3, -1, Long.MIN_VALUE)
        .anyway(STATE));
    ask(call("sing", 3, 0, 9, 0).state(2, 0, 8).bad(2, -1).none(0, 2));
    ask(call("sung", 0).none(0, -1, 3, 40, LEAST, MOST));
  }

  private static void singers() {
    ask(call("singer", 0).bad(0, -1, 1000, LEAST, MOST));
    ask(call("village", 0, 1).none(0, -1, 4, 8, LEAST, MOST).bad(1, -1, 10, LEAST, MOST));
    ask(call("learn", 0, 0, -1, 5).none(0, -1, 4, LEAST, MOST).none(1, -1, 6, LEAST, MOST).none(2, -2, 4, LEAST, MOST)
        .bad(2, 0)
        .bad(3, -1, 1000, LEAST, MOST));
    for (int s = 0; s < 4; s++) ask(call("learn", s, 0, s, 5).none(1, 6).none(0, 4).bad(3, -1).anyway(BAD));
    ask(call("forget", 0, 0, 5).none(0, -1, 4, LEAST, MOST).none(1, -1, 6, LEAST, MOST).bad(2, -1, 1000, LEAST, MOST));
  }

  private static void stocks() {
    ask(call("has", 0, 0, 5, -1).none(0, -1, 4, MOST).none(1, -1, 6, MOST).bad(2, -1, 1000, LEAST, MOST)
        .none(3, -2, 13, LEAST, MOST));
    ask(call("stock", 0, 5, -1).none(0, -1, 4, LEAST, MOST).bad(1, -1, 1000, LEAST, MOST).none(2, -2, 13, LEAST, MOST));
    ask(call("unlike", 0, 1, 5, -1).none(0, -1, 4, MOST).none(1, -1, 4, MOST).bad(2, -1, 1000, MOST)
        .none(3, -2, 13, LEAST, MOST));
    ask(call("master", 0, 5, -1).none(0, -1, 4, LEAST, MOST).bad(1, -1, 1000, LEAST, MOST)
        .none(2, -2, 13, LEAST, MOST));
    ask(call("lineage", 5, -1).bad(0, -1, 1000, LEAST, MOST).none(1, -2, 13, LEAST, MOST));
    ask(call("loan", 0, 1, 5, -1).none(0, -1, 4, MOST).none(1, -1, 4, MOST).bad(2, -1, 1000, MOST)
        .none(3, -2, 13, LEAST, MOST));
    for (int s = 0; s < 4; s++) {
      ask(call("loan", s, s, 5, -1).none(0, -1, 4).none(1, -1, 4).bad(2, -1, 1000).none(3, -2, 13).anyway(BAD));
    }
    ask(call("core", 5, -1, -1).bad(0, -1, 1000, LEAST, MOST).none(1, -2, 13, LEAST, MOST)
        .none(2, -2, 40, LEAST, MOST));
    ask(call("core", 5, -1, 0).anyway(NONE));
    ask(call("whose", 0, 5, -1).none(0, -1, 6, LEAST, MOST).bad(1, -1, 1000, LEAST, MOST).none(2, -2, 13, LEAST, MOST));
  }

  private static void recordings() {
    ask(call("put", 4, 0).bad(0, -1, 1, 3, 5, 24, LEAST, MOST).none(1, -1, 6, 39, 41, LEAST, MOST));
    ask(call("runs", 1, 0, 30, -1).none(0, -1, 2, 8, MOST).none(1, -1, 4, MOST).bad(2, -1, 1000, MOST)
        .none(3, -2, 13, MOST));
    ask(call("forged", 0, 30, -1).none(0, -1, 4, LEAST, MOST).bad(1, -1, 1000, LEAST, MOST)
        .none(2, -2, 13, LEAST, MOST));
    ask(call("record", 0, 1, 30).none(0, -1, 4, LEAST, MOST).none(1, -1, 2, 8, LEAST, MOST)
        .bad(2, -1, 1000, LEAST, MOST));
    ask(call("heard", 0, -1, 0).none(0, -1, 3, LEAST, MOST).none(1, -2, 13, LEAST, MOST).none(2, -1, 4, LEAST, MOST));
    // Recording 0 is sound, and one line in all; 1 is not sound, with its last one lost; 2 is not one line in all.
    ask(call("filled", 0, -1, 0).none(0, -1, 1, 3, LEAST, MOST).none(1, -2, 13, LEAST, MOST)
        .none(2, -1, 1, 2, LEAST, MOST));
    ask(call("filled", 2, 0, 1).none(0, -1, 1, 3).none(1, -2, 13).none(2, -1, 0, 2, 4).anyway(STATE));
    ask(call("filled", 0, 0, 0).none(0, -1, 3).none(1, -2, 13).none(2, 1, 2).anyway(STATE));
    ask(call("filled", 1, -1, 3).none(0, -1, 3).none(1, -2, 13).none(2, -1, 0, 2, 4).anyway(STATE));
    ask(call("filled", 2, -1, 1).none(0, -1, 3).none(1, -2, 13).none(2, -1, 0, 2, 4).anyway(STATE));
    ask(call("count", 0).none(0, -1, 9, LEAST, MOST));
  }

  /** What is full is told last, behind what is wrong; and an empty row behind what is BAD. */
  private static void full() {
    ask("full halves", RefusalTest::richWithFullHalves, call("half", 4, 5, 2).bad(0, 0, 9).bad(1, -1, 256)
        .bad(2, -2, 9).anyway(FULL));
    ask("full lines", RefusalTest::richWithFullLines,
        call("line", 0, 1, 0, 0, 1).none(0, -1, 6).none(1, -1, 6).none(2, -1, 8).none(3, -1, 10).bad(4, -1, 2)
            .anyway(FULL));
    ask("full tape", RefusalTest::richWithFullTape, call("feed", 'a', 1).bad(1, 0, 9, LEAST, MOST).anyway(FULL));
    ask("full tape", RefusalTest::richWithFullTape, call("feed", 'a', 8).anyway(FULL));
    ask("full singers", RefusalTest::richWithFullSingers, call("singer", 5).bad(0, -1, 1000).anyway(FULL));
    ask("full book", RefusalTest::richWithFullBook, call("learn", 0, 0, -1, 5).none(0, -1, 4).none(1, -1, 6)
        .none(2, -2, 4)
        .bad(2, 0).bad(3, -1, 1000).anyway(FULL));
    ask("full book", RefusalTest::richWithFullBook,
        call("forget", 0, 0, 5).none(0, -1, 4).none(1, -1, 6).bad(2, -1, 1000).anyway(FULL));
    ask("full book", RefusalTest::richWithFullBook, call("stock", 0, 5, -1).none(0, -1, 4).bad(1, -1, 1000)
        .none(2, -2, 201));
    ask("full row", RefusalTest::richWithFullRow, call("put", 24, 0).bad(0, -1, 1, 23, 25).none(1, -1, 6, 41)
        .anyway(FULL));
    ask("full shelf", RefusalTest::richWithFullShelf,
        call("record", 0, 1, 30).none(0, -1, 4).none(1, -1, 2, 8).bad(2, -1, 1000).anyway(FULL));
    ask("no row", RefusalTest::withoutRow,
        call("runs", 1, 0, 30, -1).none(0, -1, 2, 8).none(1, -1, 4).bad(2, -1, 1000).none(3, -2, 13).anyway(STATE));
    ask("no row", RefusalTest::withoutRow, call("forged", 0, 30, -1).none(0, -1, 4).bad(1, -1, 1000).none(2, -2, 13)
        .anyway(STATE));
    ask("no row", RefusalTest::withoutRow, call("record", 0, 1, 30).none(0, -1, 4).none(1, -1, 2, 8).bad(2, -1, 1000)
        .anyway(STATE));
    ask("no row", RefusalTest::withoutRow, call("put", 0, 0).bad(0, -1, 1, 24).none(1, -1, 6, 39, 41));
    nothingThere();
  }

  /** Of a new object nothing can be asked that needs something. */
  private static void nothingThere() {
    Object[][] calls = {{"line", 0, 0, 0, 0, 0}, {"told", 0, 0}, {"broken", 0}, {"sing", 0, 0, 0, 0}, {"sung", 0},
      {"village", 0, 0}, {"learn", 0, 0, -1, 0}, {"forget", 0, 0, 0}, {"has", 0, 0, 0, -1}, {"stock", 0, 0, -1},
      {"unlike", 0, 0, 0, -1}, {"master", 0, 0, -1}, {"lineage", 0, 1}, {"loan", 0, 1, 0, -1}, {"core", 0, -1, 0},
      {"whose", 0, 0, -1}, {"put", 0, 0}, {"runs", 0, 0, 0, -1}, {"forged", 0, 0, -1}, {"record", 0, 0, 0},
      {"heard", 0, -1, 0}, {"filled", 0, -1, 0}};
    for (Object[] c : calls) {
      long[] args = new long[c.length - 1];
      for (int k = 1; k < c.length; k++) args[k - 1] = (Integer) c[k];
      ask("new", RefusalTest::fresh, call((String) c[0], args).anyway(NONE));
    }
  }

  /** Asking what there is changes nothing: the second time all is as it was. */
  private static void looksChangeNothing() {
    check.about("looking twice");
    Run run = new Run(check);
    rich(run);
    List<String> first = Portrait.looks(run);
    compare("looking", first, Portrait.looks(run));
    Run other = new Run(check);
    rich(other);
    Portrait.looks(other);
    Run third = new Run(check);
    rich(third);
    compare("looking", Portrait.of(third), Portrait.of(other));
  }
}
