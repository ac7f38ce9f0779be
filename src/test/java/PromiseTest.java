/** One part for each promise of the document: ordinary calls, the edges that it names, wrong calls. */
public final class PromiseTest {
  private static final int NONE = -1, BAD = -2, STATE = -3, FULL = -4, NOBODY = -5, LOST = 40;
  private static final Check check = new Check("PromiseTest");

  public static void main(String[] args) {
    newObject();
    halves();
    names();
    lines();
    metre();
    told();
    swap();
    broken();
    feed();
    scene();
    sceneFaults();
    hall();
    sing();
    singLimits();
    sung();
    singers();
    villages();
    learnAndForget();
    has();
    stock();
    unlike();
    master();
    lineage();
    loan();
    core();
    whose();
    put();
    runs();
    runsLimits();
    forged();
    record();
    heard();
    filled();
    count();
    refusalsChangeNothing();
    check.end();
  }

  private static void due(String call, long got, long want) {
    check.due(call, got, want);
  }

  /** Feeds a text in pieces of at most eight bytes. */
  private static int feedText(LongSong x, String text) {
    int size = x.count(6);
    for (int k = 0; k < text.length(); k += 8) {
      long w = 0;
      int n = Math.min(8, text.length() - k);
      for (int b = 0; b < n; b++) w = w << 8 | text.charAt(k + b);
      size = x.feed(w, n);
    }
    return size;
  }

  private static int tell(LongSong x, String text) {
    feedText(x, text);
    return x.scene();
  }

  /** Lines of the told slots, from line 0 on; all scan by the first metre. */
  private static LongSong withSlots(String slots) {
    LongSong x = new LongSong();
    x.half(4, 0, -1);
    x.half(6, 0, -1);
    for (int k = 0; k < slots.length(); k++) x.line(0, 1, slots.charAt(k) - 'a', 0, 0);
    return x;
  }

  /** One singer more, who knows the first so many lines from year 0 on. */
  private static LongSong singerOf(LongSong x, int born, int lines) {
    int s = x.singer(born);
    for (int l = 0; l < lines; l++) x.learn(s, l, -1, 0);
    return x;
  }

  private static void putAll(LongSong x, int... row) {
    for (int i = 0; i < row.length; i++) due("put", x.put(i, row[i]), i + 1);
  }

  private static void newObject() {
    LongSong x = new LongSong();
    int[] counts = {0, 0, 0, 0, 0, 0, 0, 1, 0};
    for (int what = 0; what < 9; what++) due("new count " + what, x.count(what), counts[what]);
    due("new broken", x.broken(-1), 0);
    due("new sung", x.sung(0), NONE);
    due("new told", x.told(0, 0), NONE);
    due("new lineage", x.lineage(0, -1), 0);
    due("new scene 0", x.sing(0, 0, 0, 0), NONE);
    due("new heard", x.heard(0, -1, 0), NONE);
    due("new metre 0", x.metre(0, 1), 4);
    due("new metre 1", x.metre(1, 1), 6);
    due("new metre 2", x.metre(2, 1), 0);
    for (int n = 0; n < 10; n++) due("new name " + n, x.name(n, 4, 15), 1);
    LongSong y = new LongSong();
    due("one object does not reach into another", y.metre(0, 4), 4);
    due("NONE", LongSong.NONE, -1);
    due("BAD", LongSong.BAD, -2);
    due("STATE", LongSong.STATE, -3);
    due("FULL", LongSong.FULL, -4);
  }

  private static void halves() {
    LongSong x = new LongSong();
    due("half least", x.half(1, 0, -1), 0);
    due("half most", x.half(8, 255, 8), 1);
    due("half gap 0", x.half(1, 1, 0), 2);
    due("half beats 0", x.half(0, 0, -1), BAD);
    due("half beats 9", x.half(9, 0, -1), BAD);
    due("half beats -1", x.half(-1, 0, -1), BAD);
    due("half beats least int", x.half(Integer.MIN_VALUE, 0, -1), BAD);
    due("half beats 33", x.half(33, 0, -1), BAD);
    due("half heavy beyond", x.half(3, 8, -1), BAD);
    due("half heavy 256", x.half(8, 256, -1), BAD);
    due("half heavy -1", x.half(3, -1, -1), BAD);
    due("half gap beyond", x.half(3, 0, 4), BAD);
    due("half gap -2", x.half(3, 0, -2), BAD);
    due("halves so far", x.count(0), 3);
    for (int h = 3; h < 40; h++) due("half " + h, x.half(4, 0, -1), h);
    due("half 40", x.half(4, 0, -1), FULL);
    due("BAD ahead of FULL", x.half(4, 16, -1), BAD);
    due("halves in all", x.count(0), 40);
  }

  private static void names() {
    LongSong x = new LongSong();
    due("name", x.name(9, 4, 15), 1);
    due("name again", x.name(9, 2, 0), 4);
    due("name as it is", x.name(9, 1, 1), 2);
    due("name -1", x.name(-1, 1, 0), NONE);
    due("name 10", x.name(10, 1, 0), NONE);
    due("NONE ahead of BAD", x.name(10, 0, 0), NONE);
    due("name beats 0", x.name(0, 0, 0), BAD);
    due("name beats 5", x.name(0, 5, 0), BAD);
    due("name heavy beyond", x.name(0, 2, 4), BAD);
    due("name heavy -1", x.name(0, 2, -1), BAD);
    due("name stays", x.name(0, 3, 7), 1);
    x.half(2, 0, 1);
    x.line(0, 0, 0, 0, 0);
    due("name in both halves", x.told(0, 6), 10);
    due("name's heavy ones", x.told(0, 7), 0b01110_01110);
    x.name(0, 1, 1);
    due("a line follows its name", x.told(0, 7), 0b010_010);
  }

  private static void lines() {
    LongSong x = new LongSong();
    due("line without halves", x.line(0, 0, 0, 0, 0), NONE);
    x.half(4, 0, -1);
    x.half(6, 0, -1);
    due("line", x.line(0, 1, 7, 9, 1), 0);
    due("line of one half", x.line(1, 1, 0, 0, 0), 1);
    due("line first 2", x.line(2, 1, 0, 0, 0), NONE);
    due("line second 2", x.line(0, 2, 0, 0, 0), NONE);
    due("line first -1", x.line(-1, 1, 0, 0, 0), NONE);
    due("line second -1", x.line(0, -1, 0, 0, 0), NONE);
    due("line slot 8", x.line(0, 1, 8, 0, 0), NONE);
    due("line slot -1", x.line(0, 1, -1, 0, 0), NONE);
    due("line hero 10", x.line(0, 1, 0, 10, 0), NONE);
    due("line hero -1", x.line(0, 1, 0, -1, 0), NONE);
    due("line slip 2", x.line(0, 1, 0, 0, 2), BAD);
    due("line slip -1", x.line(0, 1, 0, 0, -1), BAD);
    due("NONE ahead of BAD", x.line(0, 1, 8, 0, 2), NONE);
    for (int l = 2; l < 40; l++) due("line " + l, x.line(0, 1, l % 8, l % 10, l % 2), l);
    due("line 40", x.line(0, 1, 0, 0, 0), FULL);
    due("BAD ahead of FULL", x.line(0, 1, 0, 0, 2), BAD);
    due("the last line's slot", x.told(39, 2), 7);
    due("the last line's slip", x.told(39, 4), 1);
    due("the first line's slip", x.told(0, 4), 1);
    due("the second line's slip", x.told(1, 4), 0);
  }

  private static void metre() {
    LongSong x = new LongSong();
    due("metre 0", x.metre(0, 12), 4);
    due("metre 0 again", x.metre(0, 1), 12);
    due("metre 1", x.metre(1, 12), 6);
    due("metre 1 again", x.metre(1, 6), 12);
    due("metre 2", x.metre(2, (1 << 24) - 1), 0);
    due("metre 2 again", x.metre(2, 5), (1 << 24) - 1);
    due("metre what -1", x.metre(-1, 4), NONE);
    due("metre what 3", x.metre(3, 4), NONE);
    due("NONE ahead of BAD", x.metre(3, -4), NONE);
    due("metre 0 of 0", x.metre(0, 0), BAD);
    due("metre 0 of 13", x.metre(0, 13), BAD);
    due("metre 1 of 0", x.metre(1, 0), BAD);
    due("metre 1 of 13", x.metre(1, 13), BAD);
    due("metre 2 of -1", x.metre(2, -1), BAD);
    due("metre 2 beyond 24 beats", x.metre(2, 1 << 24), BAD);
    due("metre 2 stays", x.metre(2, 0), 5);
    x.half(4, 1, -1);
    x.half(6, 1, -1);
    x.metre(0, 4);
    x.line(0, 1, 0, 0, 0);
    due("scans without heavy ones", x.told(0, 5), 1);
    x.metre(2, 0b010001);
    due("scans with those that are heavy", x.told(0, 5), 1);
    x.metre(2, 0b000010);
    due("does not scan: first half is light there", x.told(0, 5), 0);
    x.metre(2, 0b100000);
    due("does not scan: second half is light there", x.told(0, 5), 0);
    x.metre(2, 1 << 10);
    due("does not scan: no such beat", x.told(0, 5), 0);
    x.metre(2, 0);
    x.metre(0, 6);
    x.metre(1, 4);
    due("does not scan with as many in all", x.told(0, 5), 0);
  }

  private static void told() {
    LongSong x = new LongSong();
    x.half(3, 0b101, 0);
    x.half(5, 0b10011, 5);
    x.half(4, 0b0110, -1);
    x.name(3, 2, 0b10);
    due("line", x.line(0, 1, 6, 3, 1), 0);
    int[] all = {0, 1, 6, 3, 1, 0, 12, 0b10_10011_101_10};
    for (int what = 0; what < 8; what++) due("told " + what, x.told(0, what), all[what]);
    due("told -1", x.told(0, -1), NONE);
    due("told 8", x.told(0, 8), NONE);
    due("told line 1", x.told(1, 0), NONE);
    due("told line -1", x.told(-1, 0), NONE);
    x.line(2, 2, 0, 3, 0);
    due("no gap, no name: beats", x.told(1, 6), 8);
    due("no gap, no name: heavy", x.told(1, 7), 0b0110_0110);
    x.metre(0, 5);
    x.metre(1, 7);
    due("scans by another metre", x.told(0, 5), 1);
    x.half(8, 255, 8);
    x.name(4, 4, 15);
    x.line(3, 3, 0, 4, 0);
    due("24 heavy beats", x.told(2, 7), (1 << 24) - 1);
    x.half(2, 0b11, 1);
    x.line(4, 2, 0, 3, 0);
    due("a name between beats", x.told(3, 7), 0b0110_1101);
  }

  private static void swap() {
    LongSong x = new LongSong();
    x.half(3, 0, 3);
    x.half(5, 0, 0);
    x.half(4, 1, -1);
    x.half(6, 1, -1);
    x.half(4, 0, -1);
    x.half(6, 0, -1);
    x.name(1, 2, 0);
    x.name(2, 1, 1);
    x.line(0, 1, 0, 0, 0);
    x.line(0, 5, 0, 0, 0);
    x.line(4, 1, 0, 0, 0);
    x.line(4, 5, 0, 0, 0);
    x.line(0, 1, 0, 2, 0);
    due("swap -1", x.swap(-1, 1), NONE);
    due("swap 10", x.swap(10, 1), NONE);
    due("swap for 10", x.swap(0, 10), NONE);
    due("swap for -1", x.swap(0, -1), NONE);
    due("NONE ahead of BAD", x.swap(10, 10), NONE);
    due("swap for the same", x.swap(0, 0), BAD);
    due("nothing is swapped yet", x.told(0, 3), 0);
    due("swap of a hero without lines", x.swap(7, 1), 0);
    due("swap", x.swap(0, 1), 3);
    int[][] want = {{2, 3}, {2, 5}, {4, 3}, {4, 5}, {0, 1}};
    for (int l = 0; l < 5; l++) {
      due("first half of " + l, x.told(l, 0), want[l][0]);
      due("second half of " + l, x.told(l, 1), want[l][1]);
      due("hero of " + l, x.told(l, 3), l == 4 ? 2 : 1);
      due("scans " + l, x.told(l, 5), 1);
    }
    due("swap back: lines that scan stay as they are", x.swap(1, 0), 0);
    due("first half stays", x.told(0, 0), 2);
    x.metre(2, 0b0001);
    due("heavy beats count", x.swap(0, 1), 2);
    due("mended by the least heavy half", x.told(3, 0), 2);
    due("its other half fits still", x.told(3, 1), 5);
    due("swap for name 9", x.swap(1, 9), 0);
    due("swap of name 9", x.swap(9, 8), 0);
    due("hero 8 then", x.told(0, 3), 8);
    LongSong y = new LongSong();
    y.half(3, 0, 0);
    y.half(6, 0, -1);
    y.half(3, 1, 0);
    y.name(1, 1, 1);
    y.metre(2, 3);
    y.line(0, 1, 0, 0, 0);
    due("a half with a heavy name's room fits", y.swap(0, 1), 1);
    due("the least one that fits", y.told(0, 0), 2);
  }

  private static void broken() {
    LongSong x = new LongSong();
    x.half(3, 0, 0);
    x.half(6, 0, -1);
    x.line(0, 1, 0, 5, 0);
    x.line(1, 1, 0, 0, 0);
    x.line(0, 1, 0, 0, 0);
    x.line(0, 0, 0, 0, 0);
    due("mended by what is there", x.swap(0, 5), 2);
    due("none broken", x.broken(-1), 0);
    x.name(6, 2, 0);
    due("nothing can be mended", x.swap(5, 6), 0);
    due("broken", x.broken(-1), 4);
    for (int i = 0; i < 4; i++) due("broken " + i, x.broken(i), i);
    due("broken 4", x.broken(4), NONE);
    due("broken -2", x.broken(-2), NONE);
    due("broken ones have the other hero", x.told(0, 3), 6);
    due("their halves stay", x.told(0, 0), 0);
    due("their halves stay", x.told(0, 1), 1);
    due("refused", x.swap(6, 6), BAD);
    due("refused, too", x.swap(6, 66), NONE);
    due("broken by the latest not refused", x.broken(-1), 4);
    x.line(1, 1, 0, 7, 0);
    due("swap of another hero", x.swap(7, 6), 0);
    due("just its own line", x.broken(-1), 1);
    due("that line", x.broken(0), 4);
    due("no second one", x.broken(1), NONE);
    due("swap without lines", x.swap(3, 4), 0);
    due("nothing broken then", x.broken(-1), 0);
  }

  private static void feed() {
    LongSong x = new LongSong();
    due("feed n 0", x.feed(0, 0), BAD);
    due("feed n 9", x.feed(0, 9), BAD);
    due("feed n -1", x.feed(0, -1), BAD);
    due("feed the lowest bytes", x.feed(0x7a7a7a7a7a413d61L, 3), 3);
    due("which are a scene", x.scene(), 0);
    due("the tape is empty then", x.count(6), 0);
    due("feed eight", x.feed(0xffffffffffffffffL, 8), 8);
    for (int k = 2; k < 8; k++) due("feed eight more", x.feed(0, 8), 8 * k);
    due("feed beyond", x.feed(0, 5), FULL);
    due("BAD ahead of FULL", x.feed(0, 9), BAD);
    due("feed four", x.feed(0, 4), 60);
    due("feed one more", x.feed(0, 1), FULL);
    due("bytes", x.count(6), 60);
    due("what was fed is no scene", x.scene(), -1000);
    due("bytes then", x.count(6), 0);
    x.feed('B', 1);
    x.feed('=', 1);
    due("one by one", x.feed('a', 1), 3);
    due("one by one: a scene", x.scene(), 1);
  }

  private static void scene() {
    LongSong x = new LongSong();
    due("A", tell(x, "A=a"), 0);
    due("H", tell(x, "H=h[A]{abc}(a|A{b})"), 7);
    due("scenes", x.count(2), 2);
    due("told anew", tell(x, "H=a"), 7);
    due("scenes still", x.count(2), 2);
    due("A is free again", tell(x, "A=b"), 0);
    due("deep", tell(x, "B=" + "[".repeat(28) + "a" + "]".repeat(28)), 1);
    due("deep with bars", tell(x, "C=" + "(a|".repeat(14) + "a" + ")".repeat(14)), 2);
    due("60 bytes", tell(x, "D=" + "ah".repeat(29)), 3);
    due("all within", tell(x, "E=ABCDH"), 4);
    due("scenes then", x.count(2), 6);
  }

  private static void sceneFaults() {
    LongSong x = new LongSong();
    Object[][] faults = {
      {"", -1000}, {"A", -1001}, {"A=", -1002}, {"a=a", -1000}, {"I=a", -1000}, {"@=a", -1000}, {"AA", -1001},
      {"A=i", -1002}, {"A=`", -1002}, {"A=a=", -1003}, {"A=a ", -1003}, {"A=I", -1002}, {"A=@", -1002},
      {"A=[", -1003}, {"A=[]", -1003}, {"A=[a", -1004}, {"A=[a}", -1004}, {"A=[a)", -1004}, {"A=[a|b]", -1004},
      {"A={}", -1003}, {"A={a]", -1004}, {"A={a", -1004}, {"A=()", -1003}, {"A=(a)", -1004}, {"A=(a|)", -1005},
      {"A=(|a)", -1003}, {"A=(a|b", -1006}, {"A=(a|b]", -1006}, {"A=(a|b|c)", -1006}, {"A=(a", -1004},
      {"A=]", -1002}, {"A=a]", -1003}, {"A=a|b", -1003}, {"A=a)", -1003}, {"A=[a]]", -1005}, {"A=(a|b)c)", -1008},
      {"A=[(a|[b]])", -1009}, {"A=A", -2002}, {"A=aB", -2003}, {"A=[b]BA", -2005}, {"A=aB[", -1005},
      {"A=(a\0b)", -1004}, {"A=[a\0", -1004}, {"A=\u00e1", -1002}, {"A=" + "[".repeat(58), -1060},
    };
    for (Object[] f : faults) due("scene " + f[0], tell(x, (String) f[0]), (Integer) f[1]);
    due("no scene was told", x.count(2), 0);
    due("the tape is empty behind a fault", x.count(6), 0);
    due("A", tell(x, "A=a"), 0);
    due("itself, told already", tell(x, "A=aA"), -2003);
    due("B", tell(x, "B=[A]"), 1);
    due("stands in B", tell(x, "A=b"), -3000);
    due("kind 1 ahead of kind 3", tell(x, "A=b]"), -1003);
    due("kind 2 ahead of kind 3", tell(x, "A=bC"), -2003);
    due("the first of kind 2", tell(x, "C=ABDC"), -2004);
    due("C", tell(x, "C=B"), 2);
    due("stands in C", tell(x, "B=a"), -3000);
    due("C anew", tell(x, "C=A"), 2);
    due("B is free", tell(x, "B=C"), 1);
    due("C stands in B now", tell(x, "C=a"), -3000);
    due("B can be told anew", tell(x, "B=a"), 1);
    due("so can C", tell(x, "C=B"), 2);
    due("and A, in which none stands", tell(x, "A=C"), 0);
  }

  private static void hall() {
    LongSong x = new LongSong();
    due("hall", x.hall(0), 1);
    due("hall 3", x.hall(3), 0);
    due("hall 4", x.hall(4), BAD);
    due("hall -1", x.hall(-1), BAD);
    due("hall was", x.hall(2), 3);
    due("count", x.count(7), 2);
  }

  private static void sing() {
    LongSong x = singerOf(withSlots("aabbb"), 0, 5);
    due("A", tell(x, "A=[a]{b}(a|bb)"), 0);
    x.hall(2);
    due("sing 0", x.sing(0, 0, 5, 0), 1);
    due("left out, none, the first, line 0", x.sung(0), 0);
    // [] 1 of 2; a: 1 of 2; {} 2 of 3; b: 2 of 3, b: 0 of 3; () 1 of 2; b: 1 of 3; b: 2 of 3
    long number = 1 + 2 * (1 + 2 * (2 + 3 * (2 + 3 * (0 + 3 * (1 + 2 * (1 + 3 * 2))))));
    due("sing by all choices", x.sing(0, 0, 5, number), 5);
    int[] want = {1, 4, 2, 3, 4};
    for (int i = 0; i < 5; i++) due("sung " + i, x.sung(i), want[i]);
    due("sing beyond all choices", x.sing(0, 0, 5, number + 648L * 972), 5);
    due("scene that is not told", x.sing(1, 0, 5, 0), NONE);
    due("scene -1", x.sing(-1, 0, 5, 0), NONE);
    due("scene 8", x.sing(8, 0, 5, 0), NONE);
    due("singer 1", x.sing(0, 1, 5, 0), NONE);
    due("singer -1", x.sing(0, -1, 5, 0), NONE);
    due("year -1", x.sing(0, 0, -1, 0), BAD);
    due("year 1000", x.sing(0, 0, 1000, 0), BAD);
    due("year 999", x.sing(0, 0, 999, 0), 1);
    due("number -1", x.sing(0, 0, 5, -1), BAD);
    due("NONE ahead of BAD", x.sing(1, 0, 5, -1), NONE);
    due("the greatest number", x.sing(0, 0, 5, Long.MAX_VALUE) > 0 ? 1 : 0, 1);
    due("B", tell(x, "B=A[c]"), 1);
    due("a slot without lines, left out", x.sing(1, 0, 5, 0), 1);
    due("a slot without lines, come to", x.sing(1, 0, 5, 2 * 3 * 2 * 2), STATE);
    due("C", tell(x, "C=[c]"), 2);
    due("no line at all", x.sing(2, 0, 5, 0), 0);
    due("nothing sung", x.sung(0), NONE);
    due("of 0 ways", x.sing(2, 0, 5, 1), STATE);
    x.hall(0);
    due("D", tell(x, "D={a}[b]"), 3);
    due("with hall 0 a choice of one way", x.sing(3, 0, 5, 1), 1);
    due("is the next one's number", x.sung(0), 2);
    x.forget(0, 0, 3);
    x.hall(1);
    due("by the stock of that year", x.sing(0, 0, 3, 0), 1);
    due("line 1 then", x.sung(0), 1);
    due("and of the year before", x.sing(0, 0, 2, 0), 1);
    due("line 0 still", x.sung(0), 0);
  }

  private static void singLimits() {
    LongSong x = singerOf(withSlots("a"), 0, 1);
    tell(x, "A=" + "a".repeat(40));
    due("40 lines", x.sing(0, 0, 0, 0), 40);
    due("the last of them", x.sung(39), 0);
    due("no more", x.sung(40), NONE);
    tell(x, "B=Aa");
    due("41 lines", x.sing(1, 0, 0, 0), STATE);
    due("what was sung stays", x.sung(39), 0);
    // Brackets that are left out: A goes through 10, B through 9 * 11, C through 20 * 100.
    LongSong y = singerOf(withSlots("a"), 0, 1);
    tell(y, "A=[a][a][a][a][a][a][a][a][a][a]");
    tell(y, "B=AAAAAAAAA");
    due("99 items", y.sing(1, 0, 0, 0), 0);
    tell(y, "C=BBBBBBBBBBBBBBBBBBBB");
    due("2000 items", y.sing(2, 0, 0, 0), 0);
    tell(y, "D=C[a]");
    due("beyond 2000", y.sing(3, 0, 0, 0), STATE);
    tell(y, "E=a");
    due("sung", y.sing(4, 0, 0, 0), 1);
    due("can't be", y.sing(3, 0, 0, 0), STATE);
    due("sung stays", y.sung(0), 0);
    tell(y, "D=C");
    due("2001 items", y.sing(3, 0, 0, 0), STATE);
    deepSong();
  }

  /** Brackets as deep as they can stand, through all eight scenes. */
  private static void deepSong() {
    LongSong x = singerOf(withSlots("a"), 0, 1);
    String within = "a";
    for (char s = 'A'; s <= 'H'; s++) {
      due("scene " + s, tell(x, s + "=" + "{".repeat(28) + within + "}".repeat(28)), s - 'A');
      within = "" + s;
    }
    due("one each, too many choices for a number", x.sing(7, 0, 0, Long.MAX_VALUE), 0);
    x.hall(0);
    due("none with hall 0", x.sing(7, 0, 0, 1), 0);
    x.put(0, 0);
    due("no run with hall 0", x.runs(7, 0, 0, -1), 0);
    x.hall(1);
    due("one run with hall 1", x.runs(7, 0, 0, -1), 1);
    x.hall(3);
    due("many with hall 3", x.runs(7, 0, 0, -1), 1000000);
  }

  private static void sung() {
    LongSong x = singerOf(withSlots("abc"), 0, 3);
    tell(x, "A=cab");
    due("sung of nothing", x.sung(0), NONE);
    due("sing", x.sing(0, 0, 0, 0), 3);
    due("sung 0", x.sung(0), 2);
    due("sung 1", x.sung(1), 0);
    due("sung 2", x.sung(2), 1);
    due("sung 3", x.sung(3), NONE);
    due("sung -1", x.sung(-1), NONE);
    due("sung far off", x.sung(Integer.MAX_VALUE), NONE);
    tell(x, "B=b");
    due("sing less", x.sing(1, 0, 0, 0), 1);
    due("sung anew", x.sung(0), 1);
    due("the longer one is gone", x.sung(1), NONE);
    due("refused", x.sing(1, 0, 0, -1), BAD);
    due("sung stays", x.sung(0), 1);
  }

  private static void singers() {
    LongSong x = new LongSong();
    due("born -1", x.singer(-1), BAD);
    due("born 1000", x.singer(1000), BAD);
    due("born 0", x.singer(0), 0);
    due("born 999", x.singer(999), 1);
    for (int s = 2; s < 8; s++) due("singer " + s, x.singer(s), s);
    due("singer 8", x.singer(5), FULL);
    due("BAD ahead of FULL", x.singer(1000), BAD);
    due("singers", x.count(3), 8);
  }

  private static void villages() {
    LongSong x = new LongSong();
    due("no singer", x.village(0, 1), NONE);
    x.singer(1);
    due("village", x.village(0, 9), 0);
    due("village again", x.village(0, 4), 9);
    due("village 10", x.village(0, 10), BAD);
    due("village -1", x.village(0, -1), BAD);
    due("NONE ahead of BAD", x.village(1, 10), NONE);
    due("singer -1", x.village(-1, 0), NONE);
    due("village stays", x.village(0, 0), 4);
  }

  private static void learnAndForget() {
    LongSong x = withSlots("ab");
    x.singer(500);
    x.singer(10);
    due("learn", x.learn(0, 0, -1, 0), 1);
    due("learn from", x.learn(0, 1, 1, 999), 2);
    due("forget", x.forget(1, 1, 0), 3);
    due("learn singer 2", x.learn(2, 0, -1, 0), NONE);
    due("learn singer -1", x.learn(-1, 0, -1, 0), NONE);
    due("learn line 2", x.learn(0, 2, -1, 0), NONE);
    due("learn line -1", x.learn(0, -1, -1, 0), NONE);
    due("learn from 2", x.learn(0, 0, 2, 0), NONE);
    due("learn from -2", x.learn(0, 0, -2, 0), NONE);
    due("learn from itself", x.learn(0, 0, 0, 0), BAD);
    due("learn year -1", x.learn(0, 0, 1, -1), BAD);
    due("learn year 1000", x.learn(0, 0, 1, 1000), BAD);
    due("NONE ahead of BAD", x.learn(0, 2, 0, 1000), NONE);
    due("forget singer 2", x.forget(2, 0, 0), NONE);
    due("forget singer -1", x.forget(-1, 0, 0), NONE);
    due("forget line 2", x.forget(0, 2, 0), NONE);
    due("forget line -1", x.forget(0, -1, 0), NONE);
    due("forget year -1", x.forget(0, 0, -1), BAD);
    due("forget year 1000", x.forget(0, 0, 1000), BAD);
    due("forget: NONE ahead of BAD", x.forget(0, 2, 1000), NONE);
    due("entries", x.count(4), 3);
    for (int e = 4; e <= 200; e++) {
      due("entry " + e, e % 2 == 0 ? x.learn(1, 0, 0, e) : x.forget(1, 0, e), e);
    }
    due("learn beyond 200", x.learn(0, 0, -1, 0), FULL);
    due("forget beyond 200", x.forget(0, 0, 0), FULL);
    due("learn: BAD ahead of FULL", x.learn(0, 0, 0, 0), BAD);
    due("forget: BAD ahead of FULL", x.forget(0, 0, 1000), BAD);
    due("entries in all", x.count(4), 200);
    due("the last one counts", x.has(1, 0, 200, 200), 1);
    due("the one before, too", x.has(1, 0, 200, 199), 0);
  }

  private static void has() {
    LongSong x = withSlots("ab");
    x.singer(0);
    x.singer(0);
    x.learn(0, 0, -1, 10);
    x.forget(0, 0, 20);
    x.learn(0, 0, -1, 15);
    x.forget(0, 0, 10);
    x.learn(0, 0, 1, 20);
    int[][] want = {
      {9, -1, 0}, {10, 1, 1}, {10, 3, 1}, {10, 4, 0}, {14, -1, 0}, {15, -1, 1}, {19, 2, 1}, {20, 2, 0}, {20, 4, 0},
      {20, 5, 1}, {999, -1, 1}, {999, 0, 0}, {15, 2, 1}, {0, -1, 0}};
    for (int[] w : want) due("has in " + w[0] + " as known " + w[1], x.has(0, 0, w[0], w[1]), w[2]);
    due("another singer", x.has(1, 0, 15, -1), 0);
    due("another line", x.has(0, 1, 15, -1), 0);
    due("singer 2", x.has(2, 0, 15, -1), NONE);
    due("singer -1", x.has(-1, 0, 15, -1), NONE);
    due("line 2", x.has(0, 2, 15, -1), NONE);
    due("line -1", x.has(0, -1, 15, -1), NONE);
    due("known 6", x.has(0, 0, 15, 6), NONE);
    due("known -2", x.has(0, 0, 15, -2), NONE);
    due("year -1", x.has(0, 0, -1, -1), BAD);
    due("year 1000", x.has(0, 0, 1000, -1), BAD);
    due("NONE ahead of BAD", x.has(0, 0, 1000, 6), NONE);
  }

  private static void stock() {
    LongSong x = singerOf(withSlots("a".repeat(40)), 0, 40);
    due("stock", x.stock(0, 0, -1), 40);
    due("stock as known", x.stock(0, 0, 7), 7);
    due("stock of nothing", x.stock(0, 0, 0), 0);
    x.forget(0, 39, 1);
    due("stock of year 0", x.stock(0, 0, -1), 40);
    due("stock of year 1", x.stock(0, 1, -1), 39);
    due("singer 1", x.stock(1, 0, -1), NONE);
    due("singer -1", x.stock(-1, 0, -1), NONE);
    due("known 42", x.stock(0, 0, 42), NONE);
    due("known 41", x.stock(0, 1, 41), 39);
    due("known -2", x.stock(0, 0, -2), NONE);
    due("year 1000", x.stock(0, 1000, -1), BAD);
    due("year -1", x.stock(0, -1, -1), BAD);
    due("NONE ahead of BAD", x.stock(1, -1, -1), NONE);
  }

  private static void unlike() {
    LongSong x = withSlots("aaaaa");
    singerOf(singerOf(x, 0, 4), 0, 2);
    x.learn(1, 4, 0, 5);
    due("unlike", x.unlike(0, 1, 0, -1), 2);
    due("unlike the other way", x.unlike(1, 0, 5, -1), 3);
    due("as known", x.unlike(0, 1, 5, 3), 3);
    due("with itself", x.unlike(1, 1, 5, -1), 0);
    due("a", x.unlike(2, 0, 0, -1), NONE);
    due("a -1", x.unlike(-1, 0, 0, -1), NONE);
    due("b", x.unlike(0, 2, 0, -1), NONE);
    due("b -1", x.unlike(0, -1, 0, -1), NONE);
    due("known", x.unlike(0, 1, 0, 8), NONE);
    due("known -2", x.unlike(0, 1, 0, -2), NONE);
    due("year", x.unlike(0, 1, 1000, -1), BAD);
    due("year -1", x.unlike(0, 1, -1, -1), BAD);
    due("NONE ahead of BAD", x.unlike(0, 2, -1, -1), NONE);
  }

  private static void master() {
    LongSong x = withSlots("aaaa");
    x.singer(50);
    x.singer(10);
    x.singer(20);
    x.singer(20);
    x.singer(50);
    due("born latest, then the least number", x.master(0, 60, -1), 2);
    due("of the same year none", x.master(4, 60, -1), 2);
    due("earlier only", x.master(2, 60, -1), 1);
    due("nobody", x.master(1, 60, -1), NOBODY);
    x.learn(0, 0, 1, 30);
    x.learn(3, 0, 1, 35);
    due("the least unlike", x.master(0, 60, -1), 3);
    due("in another year", x.master(0, 34, -1), 2);
    due("as known", x.master(0, 60, 1), 2);
    x.learn(1, 0, -1, 5);
    due("born latest of several", x.master(0, 60, -1), 3);
    due("one unlike by less, though older", x.master(0, 34, -1), 1);
    due("a master may be born later than the year", x.master(0, 5, -1), 2);
    due("singer 5", x.master(5, 0, -1), NONE);
    due("singer -1", x.master(-1, 0, -1), NONE);
    due("known", x.master(0, 0, 4), NONE);
    due("known -2", x.master(0, 0, -2), NONE);
    due("year", x.master(0, 1000, -1), BAD);
    due("year -1", x.master(0, -1, -1), BAD);
    due("NONE ahead of BAD", x.master(5, -1, -1), NONE);
    due("BAD, though nobody is older", x.master(1, -1, -1), BAD);
  }

  private static void lineage() {
    LongSong x = withSlots("aaaa");
    due("of none", x.lineage(0, -1), 0);
    singerOf(x, 10, 3);
    due("of one", x.lineage(0, -1), 0);
    singerOf(x, 20, 1);
    due("of two", x.lineage(0, -1), 2);
    singerOf(x, 30, 0);
    due("of three", x.lineage(0, -1), 3);
    due("as known", x.lineage(0, 3), 3);
    due("as known behind two", x.lineage(0, 2), 2);
    x.learn(2, 3, -1, 9);
    due("in a later year", x.lineage(9, -1), 4);
    due("in that year still", x.lineage(8, -1), 3);
    due("known", x.lineage(0, 6), NONE);
    due("known -2", x.lineage(0, -2), NONE);
    due("year", x.lineage(1000, -1), BAD);
    due("year -1", x.lineage(-1, -1), BAD);
    due("NONE ahead of BAD", x.lineage(-1, 6), NONE);
  }

  private static void loan() {
    LongSong x = new LongSong();
    x.half(4, 0, -1);
    x.half(6, 0, -1);
    for (int l = 0; l < 6; l++) x.line(0, 1, 0, 0, l == 5 ? 0 : 1);
    x.singer(10);
    x.singer(10);
    x.singer(20);
    x.singer(20);
    // 2 is nearest to 0, 3 to 1; 2 and 3 share the slips 0, 3, 4 and the plain line 5
    int[][] stocks = {{0, 1, 3}, {2, 0}, {0, 1, 3, 4, 5}, {0, 2, 3, 4, 5}};
    for (int s = 0; s < 4; s++) for (int l : stocks[s]) x.learn(s, l, -1, 30);
    due("master of 2", x.master(2, 30, -1), 0);
    due("master of 3", x.master(3, 30, -1), 1);
    due("loan of just what no master has", x.loan(2, 3, 30, -1), 1);
    due("the other way", x.loan(3, 2, 30, -1), 1);
    due("of two without masters", x.loan(0, 1, 30, -1), 1);
    due("with one's own master", x.loan(0, 2, 30, -1), 0);
    due("of one without a master", x.loan(0, 3, 30, -1), 1);
    due("before all was learnt", x.loan(2, 3, 29, -1), 0);
    due("as known", x.loan(2, 3, 30, 14), 1);
    due("as known less", x.loan(2, 3, 30, 13), 0);
    due("one singer", x.loan(2, 2, 30, -1), BAD);
    due("a", x.loan(4, 2, 30, -1), NONE);
    due("a -1", x.loan(-1, 2, 30, -1), NONE);
    due("b", x.loan(2, 4, 30, -1), NONE);
    due("b -1", x.loan(2, -1, 30, -1), NONE);
    due("known", x.loan(2, 3, 30, 16), NONE);
    due("known -2", x.loan(2, 3, 30, -2), NONE);
    due("year", x.loan(2, 3, 1000, -1), BAD);
    due("year -1", x.loan(2, 3, -1, -1), BAD);
    due("NONE ahead of BAD", x.loan(4, 4, 30, -1), NONE);
  }

  private static void core() {
    LongSong x = withSlots("aaaa");
    due("without singers", x.core(0, -1, -1), 0);
    due("without singers none", x.core(0, -1, 0), NONE);
    singerOf(x, 10, 4);
    due("of one", x.core(0, -1, -1), 4);
    due("the last", x.core(0, -1, 3), 3);
    x.singer(20);
    due("one has nothing", x.core(0, -1, -1), 0);
    x.learn(1, 3, -1, 5);
    x.learn(1, 1, -1, 6);
    due("of two", x.core(6, -1, -1), 2);
    due("by number", x.core(6, -1, 0), 1);
    due("the second", x.core(6, -1, 1), 3);
    due("the third", x.core(6, -1, 2), NONE);
    due("the year before", x.core(5, -1, -1), 1);
    due("the year before, the first", x.core(5, -1, 0), 3);
    due("as known", x.core(6, 5, 0), 3);
    due("as known, the second", x.core(6, 5, 1), NONE);
    due("i -2", x.core(6, -1, -2), NONE);
    due("i far off", x.core(6, -1, Integer.MAX_VALUE), NONE);
    due("known", x.core(6, 7, -1), NONE);
    due("known -2", x.core(6, -2, -1), NONE);
    due("year", x.core(1000, -1, -1), BAD);
    due("year -1", x.core(-1, -1, -1), BAD);
    due("NONE ahead of BAD", x.core(-1, 7, -1), NONE);
    due("NONE ahead of BAD: i", x.core(-1, -1, -2), NONE);
  }

  private static void whose() {
    LongSong x = withSlots("aaa");
    due("nobody", x.whose(0, 0, -1), NOBODY);
    for (int s = 0; s < 5; s++) x.singer(s);
    x.village(0, 9);
    x.village(1, 9);
    x.village(2, 4);
    x.village(3, 4);
    x.village(4, 9);
    x.learn(0, 0, -1, 1);
    due("of one", x.whose(0, 1, -1), 9);
    due("not yet", x.whose(0, 0, -1), NOBODY);
    x.learn(2, 0, -1, 2);
    due("of several the least", x.whose(0, 2, -1), 4);
    x.learn(1, 0, -1, 3);
    due("the most", x.whose(0, 3, -1), 9);
    due("as known", x.whose(0, 3, 2), 4);
    x.forget(0, 0, 4);
    x.forget(1, 0, 4);
    due("forgotten there", x.whose(0, 4, -1), 4);
    due("another line", x.whose(1, 4, -1), NOBODY);
    x.learn(4, 1, -1, 4);
    x.village(4, 0);
    due("the village of now", x.whose(1, 4, -1), 0);
    due("line 3", x.whose(3, 0, -1), NONE);
    due("line -1", x.whose(-1, 0, -1), NONE);
    due("known", x.whose(0, 0, 7), NONE);
    due("known -2", x.whose(0, 0, -2), NONE);
    due("year", x.whose(0, 1000, -1), BAD);
    due("year -1", x.whose(0, -1, -1), BAD);
    due("NONE ahead of BAD", x.whose(3, -1, -1), NONE);
  }

  private static void put() {
    LongSong x = withSlots("aa");
    due("put 1 first", x.put(1, 0), BAD);
    due("put", x.put(0, 1), 1);
    due("put lost", x.put(1, LOST), 2);
    due("put 3", x.put(3, 0), BAD);
    due("put 1 again", x.put(1, 0), BAD);
    due("put -1", x.put(-1, 0), BAD);
    due("put line 2", x.put(2, 2), NONE);
    due("put line 41", x.put(2, 41), NONE);
    due("put line -1", x.put(2, -1), NONE);
    due("NONE ahead of BAD", x.put(5, 2), NONE);
    for (int i = 2; i < 24; i++) due("put " + i, x.put(i, 0), i + 1);
    due("put 24", x.put(24, 0), FULL);
    due("put 25", x.put(25, 0), BAD);
    due("NONE ahead of FULL", x.put(24, 2), NONE);
    due("begins anew", x.put(0, 0), 1);
    due("goes on", x.put(1, 0), 2);
    x.singer(0);
    tell(x, "A=aa");
    due("it is what was put anew: nobody has it", x.forged(0, 0, -1), 0);
    x.learn(0, 0, -1, 0);
    due("it is what was put anew", x.runs(0, 0, 0, -1), 1);
  }

  private static void runs() {
    LongSong x = singerOf(withSlots("aabb"), 0, 3);
    tell(x, "A=[a]{b}(a|b[a])");
    due("empty row", x.runs(0, 0, 0, -1), STATE);
    putAll(x, 0);
    due("one line", x.runs(0, 0, 0, -1), 1);
    putAll(x, 2);
    due("b: the second way", x.runs(0, 0, 0, -1), 1);
    putAll(x, 2, 0);
    due("two ways", x.runs(0, 0, 0, -1), 2);
    putAll(x, 2, LOST);
    due("lost: two lines twice, or b behind b", x.runs(0, 0, 0, -1), 5);
    putAll(x, LOST, LOST);
    // [a] and a: 2*2; [a] and b: 2; b and a: 2; b[a]: 2; b and b: 1
    due("all lost", x.runs(0, 0, 0, -1), 11);
    putAll(x, 3);
    due("a line that is not in the stock", x.runs(0, 0, 0, -1), 0);
    x.learn(0, 3, -1, 7);
    due("in its year", x.runs(0, 0, 7, -1), 1);
    due("the year before", x.runs(0, 0, 6, -1), 0);
    due("as was known", x.runs(0, 0, 7, 3), 0);
    putAll(x, 2, 2, 2);
    due("too many times round", x.runs(0, 0, 0, -1), 0);
    x.hall(3);
    due("the hall is fuller", x.runs(0, 0, 0, -1), 1);
    x.hall(0);
    putAll(x, 2, 0);
    due("hall 0", x.runs(0, 0, 0, -1), 1);
    due("scene", x.runs(1, 0, 0, -1), NONE);
    due("scene -1", x.runs(-1, 0, 0, -1), NONE);
    due("scene 8", x.runs(8, 0, 0, -1), NONE);
    due("singer", x.runs(0, 1, 0, -1), NONE);
    due("singer -1", x.runs(0, -1, 0, -1), NONE);
    due("known", x.runs(0, 0, 0, 5), NONE);
    due("known -2", x.runs(0, 0, 0, -2), NONE);
    due("year", x.runs(0, 0, 1000, -1), BAD);
    due("year -1", x.runs(0, 0, -1, -1), BAD);
    due("NONE ahead of BAD", x.runs(1, 0, -1, -1), NONE);
    LongSong y = singerOf(withSlots("a"), 0, 1);
    tell(y, "A=a");
    due("BAD ahead of STATE, told", y.runs(0, 0, -1, -1), BAD);
    due("STATE", y.runs(0, 0, 0, -1), STATE);
  }

  private static void runsLimits() {
    LongSong x = singerOf(withSlots("aaaaaaaaaab"), 0, 10);
    tell(x, "A=aaaaaa");
    putAll(x, LOST, LOST, LOST, LOST, LOST, LOST);
    due("just as many", x.runs(0, 0, 0, -1), 1000000);
    due("fewer", x.runs(0, 0, 0, 9), 531441);
    tell(x, "A=(aaaaaa|aaaaaa)");
    due("more", x.runs(0, 0, 0, -1), 1000000);
    due("more of fewer", x.runs(0, 0, 0, 9), 1000000);
    due("more of still fewer", x.runs(0, 0, 0, 8), 524288);
    LongSong y = singerOf(withSlots("a"), 0, 1);
    tell(y, "A=[{a}]");
    tell(y, "B=aA");
    putAll(y, 0);
    due("ways that make no line", y.runs(1, 0, 0, -1), 2);
    due("one with a line", y.runs(0, 0, 0, -1), 1);
    tell(y, "B=aAAAAAAAAAAAAAAAAAAA");
    due("19 of them", y.runs(1, 0, 0, -1), 1 << 19);
    tell(y, "B=aAAAAAAAAAAAAAAAAAAAA");
    due("20 of them", y.runs(1, 0, 0, -1), 1000000);
    tell(y, "C={B}a");
    due("no such ways where they can't be", y.runs(2, 0, 0, -1), 1);
    longRow();
  }

  private static void longRow() {
    LongSong x = singerOf(withSlots("ab"), 0, 2);
    x.hall(3);
    tell(x, "A={{{a}}}");
    for (int i = 0; i < 24; i++) x.put(i, 0);
    due("24 lines", x.runs(0, 0, 0, -1), waysOf24());
    tell(x, "B={aaaaaaaa}");
    due("three eights", x.runs(1, 0, 0, -1), 1);
    tell(x, "C={aaaaaaa}");
    due("sevens do not make 24", x.runs(2, 0, 0, -1), 0);
  }

  /** By polynomials: p -> 1 + p + p^2 + p^3, three times from x. */
  private static int waysOf24() {
    long[] p = new long[28];
    p[1] = 1;
    for (int round = 0; round < 3; round++) {
      long[] sum = new long[28], power = new long[28];
      power[0] = 1;
      for (int t = 0; t <= 3; t++) {
        long[] next = new long[28];
        for (int i = 0; i < 28; i++) {
          sum[i] += power[i];
          for (int j = 0; i + j < 28; j++) next[i + j] += power[i] * p[j];
        }
        power = next;
      }
      p = sum;
    }
    return (int) Math.min(p[24], 1000000);
  }

  private static void forged() {
    LongSong x = withSlots("aaaaa");
    singerOf(x, 10, 1);
    x.singer(20);
    x.learn(1, 1, 0, 20);
    x.singer(30);
    x.learn(2, 1, 1, 20);
    x.learn(2, 2, 1, 20);
    x.singer(40);
    x.learn(3, 1, 1, 20);
    x.learn(3, 2, 1, 20);
    x.learn(3, 3, 1, 20);
    due("empty row", x.forged(0, 20, -1), STATE);
    due("2's master", x.master(2, 20, -1), 1);
    due("3's master", x.master(3, 20, -1), 2);
    putAll(x, 1, LOST, 0, 2, 3);
    due("its own and its master's and its pupil's", x.forged(1, 20, -1), 4);
    due("of the youngest", x.forged(3, 20, -1), 2);
    due("of the oldest", x.forged(0, 20, -1), 3);
    due("of the third", x.forged(2, 20, -1), 2);
    due("in an earlier year", x.forged(1, 19, -1), 0);
    due("as known", x.forged(0, 20, 1), 0);
    due("as known, one more", x.forged(0, 20, 2), 3);
    putAll(x, LOST, LOST);
    due("lost ones are not forged", x.forged(0, 20, -1), NOBODY);
    putAll(x, 0, 1, 2);
    due("none", x.forged(1, 20, -1), NOBODY);
    putAll(x, 0, 4);
    due("nobody has it", x.forged(1, 20, -1), 1);
    due("singer", x.forged(4, 20, -1), NONE);
    due("singer -1", x.forged(-1, 20, -1), NONE);
    due("known", x.forged(1, 20, 8), NONE);
    due("known -2", x.forged(1, 20, -2), NONE);
    due("year", x.forged(1, 1000, -1), BAD);
    due("year -1", x.forged(1, -1, -1), BAD);
    due("NONE ahead of BAD", x.forged(4, -1, -1), NONE);
    LongSong y = singerOf(withSlots("a"), 0, 1);
    due("BAD ahead of STATE", y.forged(0, -1, -1), BAD);
  }

  private static void record() {
    LongSong x = singerOf(withSlots("ab"), 0, 2);
    tell(x, "B=[a]b");
    due("empty row", x.record(0, 1, 0), STATE);
    due("BAD ahead of STATE", x.record(0, 1, 1000), BAD);
    putAll(x, 0, 1);
    due("singer", x.record(1, 1, 0), NONE);
    due("singer -1", x.record(-1, 1, 0), NONE);
    due("scene", x.record(0, 0, 0), NONE);
    due("scene -1", x.record(0, -1, 0), NONE);
    due("scene 8", x.record(0, 8, 0), NONE);
    due("year", x.record(0, 1, 1000), BAD);
    due("year -1", x.record(0, 1, -1), BAD);
    due("NONE ahead of BAD", x.record(0, 0, -1), NONE);
    due("record", x.record(0, 1, 0), 0);
    due("it stays gathered", x.runs(1, 0, 0, -1), 1);
    due("and goes on", x.put(2, 1), 3);
    for (int r = 1; r < 12; r++) due("record " + r, x.record(0, 1, r), r);
    due("record 12", x.record(0, 1, 0), FULL);
    due("recordings", x.count(5), 12);
    due("BAD ahead of FULL", x.record(0, 1, -1), BAD);
    due("the first has two lines", x.heard(0, -1, 3), 2);
    due("the last has three", x.heard(11, -1, 3), 3);
    putAll(x, 1);
    due("the first is as it was", x.heard(0, -1, 3), 2);
  }

  private static void heard() {
    LongSong x = singerOf(withSlots("abb"), 0, 1);
    x.learn(0, 1, -1, 10);
    x.singer(5);
    tell(x, "A=a[b]{c}");
    putAll(x, 0, LOST);
    x.record(0, 0, 10);
    x.record(0, 0, 9);
    x.record(1, 0, 10);
    putAll(x, 0, 2, 2, LOST);
    x.record(0, 0, 10);
    due("sound", x.heard(0, -1, 0), 1);
    due("sound as known", x.heard(0, 2, 0), 1);
    due("not as known before", x.heard(0, 1, 0), 0);
    due("not in the year before", x.heard(1, -1, 0), 0);
    due("not by another singer", x.heard(2, -1, 0), 0);
    due("not as it is", x.heard(3, -1, 0), 0);
    due("lacks none", x.heard(0, -1, 1), 0);
    due("lacks as known", x.heard(0, 0, 1), 1);
    due("lacks by another", x.heard(2, -1, 1), 1);
    due("lacks at each place", x.heard(3, -1, 1), 2);
    due("lost", x.heard(0, -1, 2), 1);
    due("lost of 3", x.heard(3, -1, 2), 1);
    due("lines, those that are lost, too", x.heard(3, -1, 3), 4);
    due("what 4", x.heard(0, -1, 4), NONE);
    due("what -1", x.heard(0, -1, -1), NONE);
    due("recording", x.heard(4, -1, 0), NONE);
    due("recording -1", x.heard(-1, -1, 0), NONE);
    due("known", x.heard(0, 3, 2), NONE);
    due("known -2", x.heard(0, -2, 2), NONE);
    x.hall(0);
    tell(x, "A=a{b}");
    due("by the scene of now", x.heard(0, -1, 0), 0);
    x.hall(2);
    due("by the hall of now", x.heard(0, -1, 0), 1);
  }

  private static void filled() {
    LongSong x = singerOf(withSlots("abbc"), 0, 4);
    tell(x, "A=a(b|c)(aa|cc)");
    putAll(x, LOST, LOST, LOST, 0);
    x.record(0, 0, 0);
    due("slot a alone", x.filled(0, -1, 0), 0);
    due("b or c", x.filled(0, -1, 1), STATE);
    due("as the one behind it", x.filled(0, -1, 2), 0);
    due("not lost", x.filled(0, -1, 3), NONE);
    due("place 4", x.filled(0, -1, 4), NONE);
    due("place -1", x.filled(0, -1, -1), NONE);
    due("known nothing: not sound", x.filled(0, 0, 0), STATE);
    due("known one line: not sound", x.filled(0, 1, 0), STATE);
    due("known two lines: b is just one", x.filled(0, 2, 1), 1);
    due("known three lines: b is two", x.filled(0, 3, 1), STATE);
    putAll(x, LOST, LOST, LOST, LOST);
    x.record(0, 0, 0);
    due("aa or cc", x.filled(1, -1, 2), STATE);
    due("still a", x.filled(1, -1, 0), 0);
    due("no c as known", x.filled(1, 3, 3), 0);
    putAll(x, 1, LOST);
    x.record(0, 0, 0);
    due("not sound", x.filled(2, -1, 1), STATE);
    due("recording", x.filled(3, -1, 0), NONE);
    due("recording -1", x.filled(-1, -1, 0), NONE);
    due("known", x.filled(0, 5, 0), NONE);
    due("known -2", x.filled(0, -2, 0), NONE);
    tell(x, "B=(bd|ca)");
    putAll(x, LOST, LOST);
    x.record(0, 1, 0);
    due("only where a run goes through", x.filled(3, -1, 0), 3);
    due("and what is behind it", x.filled(3, -1, 1), 0);
    longRecording();
  }

  private static void longRecording() {
    LongSong x = singerOf(withSlots("ab"), 0, 2);
    x.hall(3);
    tell(x, "A={aaaaaaa(b|a)}");
    for (int i = 0; i < 24; i++) x.put(i, i % 8 == 7 ? 1 : LOST);
    due("24 lines", x.record(0, 0, 0), 0);
    x.put(0, LOST);
    due("a short one behind it", x.record(0, 0, 0), 1);
    due("sound", x.heard(0, -1, 0), 1);
    due("lost ones", x.heard(0, -1, 2), 21);
    due("lines", x.heard(0, -1, 3), 24);
    due("the first", x.filled(0, -1, 0), 0);
    due("the last lost one", x.filled(0, -1, 22), 0);
    due("the last one", x.filled(0, -1, 23), NONE);
    due("beyond the last one", x.filled(0, -1, 24), NONE);
    due("the short one has no run", x.filled(1, -1, 0), STATE);
    due("beyond it", x.filled(1, -1, 1), NONE);
  }

  private static void count() {
    LongSong x = singerOf(withSlots("abc"), 0, 2);
    tell(x, "C=a");
    tell(x, "D=a");
    feedText(x, "E=abc");
    x.put(0, 0);
    x.record(0, 2, 0);
    x.hall(3);
    x.line(0, 0, 0, 0, 0);
    int[] counts = {2, 4, 2, 1, 2, 1, 5, 3, 3};
    for (int what = 0; what < 9; what++) due("count " + what, x.count(what), counts[what]);
    due("count -1", x.count(-1), NONE);
    due("count 9", x.count(9), NONE);
    x.metre(1, 4);
    due("lines that scan then", x.count(8), 1);
  }

  private static void refusalsChangeNothing() {
    LongSong x = singerOf(withSlots("ab"), 3, 2);
    tell(x, "A=ab");
    x.sing(0, 0, 0, 0);
    x.put(0, 0);
    x.feed('A', 1);
    x.record(0, 0, 0);
    x.half(0, 0, 0);
    x.name(0, 5, 0);
    x.line(0, 9, 0, 0, 0);
    x.metre(0, 13);
    x.swap(0, 0);
    x.feed(0, 0);
    x.hall(4);
    x.sing(0, 0, 0, -1);
    x.singer(1000);
    x.village(0, 10);
    x.learn(0, 0, 0, 0);
    x.forget(0, 0, 1000);
    x.put(0, 9);
    x.put(5, 0);
    x.record(0, 1, 0);
    int[] counts = {2, 2, 1, 1, 2, 1, 1, 1, 2};
    for (int what = 0; what < 9; what++) due("count behind refusals " + what, x.count(what), counts[what]);
    due("sung stays", x.sung(1), 1);
    due("the row stays", x.put(1, 0), 2);
    due("the metre stays", x.metre(0, 4), 4);
    due("the village stays", x.village(0, 0), 0);
    due("the name stays", x.name(0, 1, 0), 1);
  }
}
