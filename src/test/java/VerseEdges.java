/** What the document says of halves, names, lines, the metre and swaps, at its edges. */
final class VerseEdges {
  private static final int NONE = Run.NONE, BAD = Run.BAD, FULL = Run.FULL;

  private VerseEdges() { }

  static void test(Sentences doc) {
    doc.test("HALVES are numbered from 0 on, 40 at most", VerseEdges::fortyHalves);
    doc.test("1 .. 8 BEATS, each heavy or light", VerseEdges::beatsOfAHalf);
    doc.test("(ahead of BEAT g, or behind the last one: g 0 .. BEATS)", VerseEdges::gaps);
    doc.test("NAMES 0 .. 9 have 1 .. 4 BEATS", VerseEdges::beatsOfAName);
    doc.test("(one light BEAT each at first)", VerseEdges::namesAtFirst);
    doc.test("SUNG of a NAME a HALF's BEATS have the NAME's in the GAP", VerseEdges::nameInTheGap);
    doc.test("LINES are numbered from 0 on, 40 at most", VerseEdges::fortyLines);
    doc.test("two HALVES, a SLOT (0 .. 7), a HERO (a NAME; the HALVES are SUNG of that), and perhaps a SLIP",
        VerseEdges::partsOfALine);
    doc.test("how many BEATS the first HALF has, and the second one (1 .. 12 each; 4, 6 at first)",
        VerseEdges::beatsOfTheMetre);
    doc.test("which BEATS of the whole must be heavy (bits; none at first)", VerseEdges::heavyOnesOfTheMetre);
    doc.test("A LINE SCANS by it", VerseEdges::scansByBeats);
    doc.test("must be heavy", VerseEdges::scansByHeavyOnes);
    doc.test("each LINE of that HERO, by numbers, gets the other one", VerseEdges::swapOfLines);
    doc.test("if it does not SCAN then, it gets other HALVES (of all that there are)", VerseEdges::allHalvesThereAre);
    doc.test("in place of one or both with which it SCANS: as few other ones as can be", VerseEdges::fewOtherHalves);
    doc.test("of several ways that with the least first HALF, then with the least second one",
        VerseEdges::leastHalves);
    doc.test("if there is none it is BROKEN (its HALVES stay)", VerseEdges::brokenKeepsHalves);
    doc.test("MENDED are those that got other HALVES", VerseEdges::mendedOnes);
    promises(doc);
  }

  private static void promises(Sentences doc) {
    doc.test("Nothing was heard.", VerseEdges::newObject);
    doc.test("An object is used for at most 512 calls after it has been made", VerseEdges::lastCalls);
    doc.test("A HALF more: its number (heavy: bits, BEAT 0's the lowest; gap -1: none). BAD; FULL.",
        VerseEdges::heavyBitsOfAHalf);
    doc.test("A NAME's BEATS: how many it had. NONE; BAD.", VerseEdges::heavyBitsOfAName);
    doc.test("A LINE more: its number (slip 0, 1). NONE: halves, slot, hero; BAD: slip; FULL.", VerseEdges::lineOrder);
    doc.test("METRE (what 0, 1 BEATS of the first, second HALF, 2 those that must be heavy, as bits): what it was."
        + " NONE; BAD.", VerseEdges::whatOfTheMetre);
    doc.test("Of a LINE what 0 the first HALF, 1 the second, 2 SLOT, 3 HERO, 4 SLIP (1, 0), 5 whether it SCANS"
        + " (1, 0), 6 BEATS in all as SUNG, 7 heavy ones as bits. NONE.", VerseEdges::whatOfALine);
    doc.test("TO SWAP: how many were MENDED. NONE; BAD: it is the same NAME.", VerseEdges::namesToSwap);
    doc.test("LINES that were BROKEN by the latest swap() that was not refused (they have the other HERO, too):"
        + " how many (i -1), the i-th. NONE.", VerseEdges::brokenByTheLatest);
  }

  private static void fortyHalves(Run x) {
    for (int h = 0; h < 39; h++) x.due(h, "half", 4, 0, -1);
    x.due(39, "count", 0).due(NONE, "line", 39, 0, 0, 0, 0);
    x.due(39, "half", 7, 0, -1).due(40, "count", 0);
    x.due(0, "line", 39, 39, 0, 0, 0).due(14, "told", 0, 6);
    x.due(FULL, "half", 4, 0, -1).due(40, "count", 0);
    x.due(NONE, "line", 40, 0, 0, 0, 0).due(NONE, "line", -1, 0, 0, 0, 0);
  }

  private static void beatsOfAHalf(Run x) {
    x.edges("half", 0, 1, 8, BAD, 1, 0, -1);
    // Those that were taken have 1, 2, 7 and 8 beats.
    int[] beats = {1, 2, 7, 8};
    for (int h = 0; h < 4; h++) x.due(h, "line", h, h, 0, 0, 0).due(2 * beats[h], "told", h, 6);
    x.due(4, "half", 8, 255, -1).due(4, "line", 4, 4, 0, 0, 0).due(65535, "told", 4, 7);
    x.due(5, "half", 8, 0, -1).due(5, "line", 5, 5, 0, 0, 0).due(0, "told", 5, 7);
  }

  private static void gaps(Run x) {
    for (int beats : new int[] {1, 2, 7, 8}) gapsOf(x, beats);
  }

  /** -1 is no gap, 0 the one ahead of all beats. */
  private static void gapsOf(Run x, int beats) {
    x.edges("half", 2, -1, beats, BAD, beats, 0, 0);
    int first = x.ask("count", 0) - 4, lines = x.ask("count", 1);
    int[] gaps = {-1, 0, beats - 1, beats};
    x.taken("name", 1, 1, 1);
    for (int k = 0; k < 4; k++) {
      x.due(lines + k, "line", first + k, first + k, 0, 1, 0);
      x.due(gaps[k] < 0 ? 0 : 1 << gaps[k] | 1 << (gaps[k] + beats + 1), "told", lines + k, 7);
    }
  }

  private static void beatsOfAName(Run x) {
    x.edges("name", 0, 0, 9, NONE, 0, 1, 0);
    x.edges("name", 1, 1, 4, BAD, 0, 1, 0);
    x.due(4, "name", 0, 1, 0);
  }

  private static void namesAtFirst(Run x) {
    x.due(0, "half", 1, 1, 0).due(1, "half", 1, 1, -1);
    for (int n = 0; n < 10; n++) {
      x.due(n, "line", 0, 1, 0, n, 0).due(3, "told", n, 6).due(0b110, "told", n, 7);
    }
    for (int n = 0; n < 10; n++) x.due(1, "name", n, 1, 0);
  }

  private static void nameInTheGap(Run x) {
    x.due(1, "name", 5, 2, 0b01).due(0, "half", 1, 0, -1);
    int[] heavy = {0b101, 0b10101, 0b10011, 0b10101, 0b01101};
    for (int gap = -1; gap <= 3; gap++) {
      int line = gap + 1;
      x.due(line + 1, "half", 3, 0b101, gap).due(line, "line", line + 1, 0, 0, 5, 0);
      x.due(gap < 0 ? 4 : 6, "told", line, 6).due(heavy[line], "told", line, 7);
    }
    x.due(5, "line", 0, 5, 0, 5, 0).due(0b011010, "told", 5, 7);
    x.due(2, "name", 5, 4, 0b1111).due(0b11111010, "told", 5, 7).due(8, "told", 5, 6);
    x.due(0b101, "told", 0, 7);
  }

  private static void fortyLines(Run x) {
    x.due(0, "half", 4, 0, -1);
    for (int l = 0; l < 39; l++) x.due(l, "line", 0, 0, 0, 0, 0);
    x.due(39, "count", 1).due(NONE, "told", 39, 0);
    x.due(39, "line", 0, 0, 7, 9, 1).due(40, "count", 1).due(7, "told", 39, 2).due(1, "told", 39, 4);
    x.due(FULL, "line", 0, 0, 0, 0, 0).due(40, "count", 1).due(NONE, "told", 40, 0);
  }

  private static void partsOfALine(Run x) {
    x.due(NONE, "line", 0, 0, 0, 0, 0);
    x.due(0, "half", 2, 0, 0).due(1, "half", 3, 0, 0);
    x.edges("line", 0, 0, 1, NONE, 0, 0, 0, 0, 0);
    x.edges("line", 1, 0, 1, NONE, 0, 0, 0, 0, 0);
    x.edges("line", 2, 0, 7, NONE, 0, 0, 0, 0, 0);
    x.edges("line", 3, 0, 9, NONE, 0, 0, 0, 0, 0);
    x.edges("line", 4, 0, 1, BAD, 0, 0, 0, 0, 0);
    x.due(1, "name", 9, 4, 0).due(1, "name", 8, 2, 0);
    int next = x.ask("count", 1);
    x.due(next, "line", 0, 1, 0, 9, 0).due(13, "told", next, 6);
    x.due(next + 1, "line", 0, 1, 0, 8, 0).due(9, "told", next + 1, 6);
    x.due(next + 2, "line", 0, 1, 0, 0, 0).due(7, "told", next + 2, 6);
  }

  private static void beatsOfTheMetre(Run x) {
    x.due(4, "metre", 0, 4).due(6, "metre", 1, 6);
    x.edges("metre", 1, 1, 12, BAD, 0, 1);
    x.edges("metre", 1, 1, 12, BAD, 1, 1);
    x.due(12, "metre", 0, 1).due(12, "metre", 1, 1);
    x.due(0, "half", 1, 0, -1).due(1, "half", 2, 0, -1).due(2, "half", 8, 0, 8).due(3, "half", 7, 0, 7);
    x.due(1, "name", 0, 4, 0);
    x.due(0, "line", 0, 0, 0, 0, 0).due(1, "line", 1, 0, 0, 0, 0).due(2, "line", 0, 1, 0, 0, 0);
    x.due(3, "line", 2, 2, 0, 0, 0).due(4, "line", 3, 2, 0, 0, 0).due(5, "line", 2, 3, 0, 0, 0);
    x.due(1, "told", 0, 5).due(0, "told", 1, 5).due(0, "told", 2, 5).due(0, "told", 3, 5);
    x.due(1, "metre", 0, 12).due(1, "metre", 1, 12);
    x.due(0, "told", 0, 5).due(1, "told", 3, 5).due(0, "told", 4, 5).due(0, "told", 5, 5);
  }

  private static void heavyOnesOfTheMetre(Run x) {
    x.due(0, "half", 4, 0, -1).due(1, "half", 6, 0, -1).due(0, "line", 0, 1, 0, 0, 0);
    x.due(1, "told", 0, 5);
    x.due(BAD, "metre", 2, -1).due(0, "metre", 2, 0).due(0, "metre", 2, 1).due(1, "metre", 2, 2);
    x.due(0, "told", 0, 5);
    int all = (1 << 24) - 1;
    x.due(2, "metre", 2, all - 1).due(all - 1, "metre", 2, all).due(BAD, "metre", 2, all + 1);
    x.due(BAD, "metre", 2, Integer.MAX_VALUE).due(BAD, "metre", 2, Integer.MIN_VALUE);
    x.due(all, "metre", 2, 0).due(1, "told", 0, 5);
  }

  private static void scansByBeats(Run x) {
    for (int beats = 3; beats <= 7; beats++) x.due(beats - 3, "half", beats, 0, -1);
    int lines = 0;
    for (int first = 3; first <= 7; first++) {
      for (int second = 3; second <= 7; second++) {
        x.due(lines, "line", first - 3, second - 3, 0, 0, 0);
        x.due(first == 4 && second == 6 ? 1 : 0, "told", lines, 5);
        lines++;
      }
    }
    x.due(1, "count", 8).due(6, "metre", 1, 7).due(1, "count", 8).due(4, "metre", 0, 8).due(0, "count", 8);
  }

  /** All beats heavy but one: it scans unless that one must be heavy. */
  private static void scansByHeavyOnes(Run x) {
    x.due(0, "half", 4, 15, -1).due(1, "half", 6, 63, -1);
    for (int light = 0; light < 4; light++) x.due(2 + light, "half", 4, 15 - (1 << light), -1);
    for (int light = 0; light < 6; light++) x.due(6 + light, "half", 6, 63 - (1 << light), -1);
    for (int light = 0; light < 10; light++) {
      x.due(light, "line", light < 4 ? 2 + light : 0, light < 4 ? 1 : 2 + light, 0, 0, 0);
    }
    x.due(10, "line", 0, 1, 0, 0, 0);
    for (int must = 0; must < 10; must++) {
      x.taken("metre", 2, 1 << must);
      for (int light = 0; light < 10; light++) x.due(light == must ? 0 : 1, "told", light, 5);
      x.due(1, "told", 10, 5);
    }
    x.taken("metre", 2, 1023).due(1, "count", 8);
    // The whole has ten beats: an eleventh can't be heavy.
    x.taken("metre", 2, 1024).due(0, "count", 8).taken("metre", 2, 0).due(11, "count", 8);
  }

  private static void swapOfLines(Run x) {
    x.due(0, "half", 4, 0, -1).due(1, "half", 6, 0, -1);
    for (int l = 0; l < 40; l++) x.due(l, "line", 0, 1, 0, l == 0 || l == 39 ? 3 : l == 38 ? 4 : 5, 0);
    x.due(0, "swap", 3, 4);
    x.due(4, "told", 0, 3).due(5, "told", 1, 3).due(5, "told", 37, 3).due(4, "told", 38, 3).due(4, "told", 39, 3);
    x.due(0, "swap", 3, 9).due(4, "told", 0, 3).due(4, "told", 39, 3);
    x.due(0, "swap", 4, 0).due(0, "told", 0, 3).due(0, "told", 38, 3).due(0, "told", 39, 3).due(5, "told", 1, 3);
  }

  /** Of hero 1 each half that has room for a name is one beat too long. */
  private static void fewOtherHalves(Run x) {
    x.due(0, "half", 4, 0, -1).due(1, "half", 6, 0, -1);
    x.due(2, "half", 3, 0, 0).due(3, "half", 5, 0, 0).due(4, "half", 4, 0, -1).due(5, "half", 6, 0, -1);
    x.due(1, "name", 1, 2, 0);
    x.due(0, "line", 4, 5, 0, 0, 0).due(1, "line", 2, 5, 0, 0, 0);
    x.due(2, "line", 4, 3, 0, 0, 0).due(3, "line", 2, 3, 0, 0, 0);
    x.due(4, "count", 8).due(3, "swap", 0, 1);
    x.due(4, "told", 0, 0).due(5, "told", 0, 1);
    x.due(0, "told", 1, 0).due(5, "told", 1, 1);
    x.due(4, "told", 2, 0).due(1, "told", 2, 1);
    x.due(0, "told", 3, 0).due(1, "told", 3, 1);
    x.due(4, "count", 8).due(0, "broken", -1);
  }

  /** Halves that came behind the line, stand in no line or in another hero's, have a gap: all may come in. */
  private static void allHalvesThereAre(Run x) {
    x.due(0, "half", 3, 0, 0).due(1, "half", 6, 0, -1).due(0, "line", 0, 1, 0, 0, 0).due(1, "told", 0, 5);
    x.due(1, "name", 1, 2, 0).due(0, "swap", 0, 1).due(1, "broken", -1).due(0, "swap", 1, 0).due(1, "told", 0, 5);
    x.due(2, "half", 2, 0, 1).due(1, "swap", 0, 1).due(2, "told", 0, 0).due(1, "told", 0, 1);
    // With name 0 half 2 is too short; of those that there are by then half 0 is the least one.
    x.due(3, "half", 4, 0, -1).due(1, "line", 3, 1, 0, 5, 0).due(1, "swap", 1, 0).due(0, "told", 0, 0);
    // It scans, so it keeps what it has, though a lesser half would do.
    x.due(0, "swap", 5, 0).due(3, "told", 1, 0).due(0, "broken", -1);
    x.due(1, "swap", 0, 1).due(2, "told", 0, 0).due(3, "told", 1, 0).due(2, "count", 8);
    // A line that did not scan ahead of the swap, but does behind it, is not touched either.
    Run y = x.another();
    y.due(0, "half", 4, 0, -1).due(1, "half", 2, 0, 0).due(2, "half", 6, 0, -1).due(1, "name", 1, 2, 0);
    y.due(0, "line", 1, 2, 0, 0, 0).due(0, "told", 0, 5).due(0, "swap", 0, 1).due(1, "told", 0, 5).due(1, "told", 0, 0);
  }

  private static void leastHalves(Run x) {
    leastOf(x.another(), 2);
    leastOf(x.another(), 3);
    leastOf(x.another(), 38);
    // The least one of all can be it, and the greatest.
    x.due(0, "half", 4, 0, -1).due(1, "half", 6, 0, -1).due(2, "half", 5, 0, -1);
    x.due(0, "line", 2, 2, 0, 0, 0).due(1, "swap", 0, 1).due(0, "told", 0, 0).due(1, "told", 0, 1);
    Run y = x.another();
    for (int h = 0; h < 38; h++) y.due(h, "half", 5, 0, -1);
    y.due(38, "half", 6, 0, -1).due(39, "half", 4, 0, -1);
    y.due(0, "line", 0, 0, 0, 0, 0).due(1, "swap", 0, 1).due(39, "told", 0, 0).due(38, "told", 0, 1);
    Run other = x.another();
    other.due(0, "half", 6, 0, -1).due(1, "half", 4, 0, -1).due(2, "half", 5, 0, -1);
    other.due(0, "line", 2, 2, 0, 0, 0).due(1, "swap", 0, 1).due(1, "told", 0, 0).due(0, "told", 0, 1);
    // One half may be the first and the second one.
    Run z = x.another();
    z.due(6, "metre", 1, 4).due(0, "half", 5, 0, -1).due(1, "half", 4, 0, -1);
    z.due(0, "line", 0, 0, 0, 0, 0).due(1, "swap", 0, 1).due(1, "told", 0, 0).due(1, "told", 0, 1);
  }

  /** The first ones that fit have these numbers; those below would fit of the old hero alone. */
  private static void leastOf(Run x, int first) {
    x.due(1, "name", 1, 2, 0);
    for (int h = 0; h < first; h++) x.due(h, "half", h % 2 == 0 ? 3 : 5, 0, 0);
    x.due(first, "half", 4, 0, -1).due(first + 1, "half", first > 30 ? 6 : 4, 0, -1);
    if (first <= 30) x.due(first + 2, "half", 6, 0, -1).due(first + 3, "half", 6, 0, -1);
    int second = first > 30 ? first + 1 : first + 2;
    x.due(0, "line", 0, 1, 0, 0, 0).due(1, "told", 0, 5).due(1, "swap", 0, 1);
    x.due(first, "told", 0, 0).due(second, "told", 0, 1).due(1, "told", 0, 5);
  }

  private static void brokenKeepsHalves(Run x) {
    x.due(0, "half", 3, 0, 0).due(1, "half", 5, 0, 0).due(2, "half", 4, 0, -1).due(1, "name", 1, 2, 0);
    x.due(0, "line", 0, 1, 0, 0, 0).due(1, "line", 2, 1, 0, 0, 0);
    x.due(0, "swap", 0, 1).due(2, "broken", -1);
    // The first half could be mended, but no second one fits: nothing is.
    x.due(0, "told", 0, 0).due(1, "told", 0, 1).due(1, "told", 0, 3).due(0, "told", 0, 5);
    x.due(2, "told", 1, 0).due(1, "told", 1, 1).due(1, "told", 1, 3);
    // One half more, and both can be mended by the way back and forth.
    x.due(3, "half", 6, 0, -1).due(0, "swap", 1, 0).due(2, "swap", 0, 1).due(0, "broken", -1);
    Run y = x.another();
    y.due(0, "half", 3, 0, 0).due(1, "half", 5, 0, 0).due(2, "half", 6, 0, -1).due(1, "name", 1, 2, 0);
    y.due(0, "line", 0, 1, 0, 0, 0).due(0, "swap", 0, 1).due(1, "broken", -1);
    y.due(0, "told", 0, 0).due(1, "told", 0, 1);
  }

  /** A line that scans is not mended, a broken one neither, one that did not scan before can be. */
  private static void mendedOnes(Run x) {
    x.due(0, "half", 4, 0, -1).due(1, "half", 6, 0, -1).due(2, "half", 5, 0, -1);
    x.due(0, "line", 0, 1, 0, 0, 0).due(1, "line", 2, 1, 0, 0, 0).due(2, "line", 0, 2, 0, 1, 0);
    x.due(1, "count", 8).due(1, "swap", 0, 1).due(2, "count", 8);
    x.due(0, "told", 1, 0).due(2, "told", 2, 1);
    x.due(1, "swap", 1, 2).due(1, "told", 2, 1).due(3, "count", 8).due(0, "swap", 2, 3);
    x.due(6, "metre", 1, 7).due(0, "swap", 3, 4).due(3, "broken", -1);
  }

  private static void newObject(Run x) {
    int[] counts = {0, 0, 0, 0, 0, 0, 0, 1, 0};
    for (int what = 0; what < 9; what++) x.due(counts[what], "count", what);
    x.due(NONE, "told", 0, 0).due(0, "broken", -1).due(NONE, "broken", 0).due(NONE, "sung", 0);
    x.due(NONE, "line", 0, 0, 0, 0, 0).due(NONE, "sing", 0, 0, 0, 0).due(NONE, "village", 0, 0);
    x.due(NONE, "heard", 0, -1, 0).due(NONE, "filled", 0, -1, 0).due(NONE, "stock", 0, 0, -1);
    x.due(0, "lineage", 0, -1).due(0, "lineage", 0, 0).due(NONE, "lineage", 0, 1);
    x.due(BAD, "put", 1, Run.LOST).due(-1000, "scene").due(0, "swap", 0, 9);
    x.due(4, "metre", 0, 4).due(6, "metre", 1, 6).due(0, "metre", 2, 0).due(1, "hall", 1);
    x.due(1, "put", 0, Run.LOST);
    x.another().due(BAD, "put", 1, Run.LOST);
  }

  private static void lastCalls(Run x) {
    x.due(0, "half", 4, 0, -1).due(0, "line", 0, 0, 0, 0, 0).due(0, "singer", 5);
    for (int e = 1; e <= 200; e++) x.due(e, e % 2 == 1 ? "learn" : "forget", learnOrForget(e));
    while (x.calls() < Run.MOST_CALLS - 3) x.due(200, "count", 4);
    x.due(FULL, "forget", 0, 0, 999).due(1, "has", 0, 0, 199, 199).due(0, "has", 0, 0, 200, -1);
  }

  private static long[] learnOrForget(int e) {
    return e % 2 == 1 ? new long[] {0, 0, -1, e} : new long[] {0, 0, e};
  }

  private static void heavyBitsOfAHalf(Run x) {
    for (int beats = 1; beats <= 8; beats++) {
      int most = (1 << beats) - 1;
      x.edges("half", 1, 0, most, BAD, beats, 0, -1);
    }
    x.due(32, "half", 3, 0b001, -1).due(33, "half", 3, 0b100, -1).due(0, "line", 32, 33, 0, 0, 0);
    x.due(0b100001, "told", 0, 7);
    x.due(BAD, "half", 3, Integer.MIN_VALUE, -1).due(BAD, "half", 3, Integer.MAX_VALUE, -1);
    x.due(BAD, "half", 3, 0, -2).due(34, "half", 3, 0, -1).due(35, "half", 3, 0, 0).due(BAD, "half", 3, 0, 4);
  }

  private static void heavyBitsOfAName(Run x) {
    for (int beats = 1; beats <= 4; beats++) {
      int most = (1 << beats) - 1;
      x.due(BAD, "name", beats, beats, -1).due(1, "name", beats, beats, 0).due(beats, "name", beats, beats, 1);
      x.due(beats, "name", beats, beats, most - 1).due(beats, "name", beats, beats, most);
      x.due(BAD, "name", beats, beats, most + 1).due(beats, "name", beats, beats, most);
    }
    x.due(0, "half", 1, 0, 1);
    for (int n = 1; n <= 4; n++) {
      x.due(n - 1, "line", 0, 0, 0, n, 0).due(2 * n + 2, "told", n - 1, 6);
      int half = ((1 << n) - 1) << 1;
      x.due(half | half << (n + 1), "told", n - 1, 7);
    }
  }

  private static void lineOrder(Run x) {
    x.due(0, "half", 4, 0, -1);
    for (int l = 0; l < 40; l++) x.due(l, "line", 0, 0, 0, 0, l % 2);
    x.due(FULL, "line", 0, 0, 0, 0, 1).due(BAD, "line", 0, 0, 0, 0, 2).due(NONE, "line", 0, 0, 0, 10, 2);
    x.due(NONE, "line", 1, 0, 0, 0, 0).due(NONE, "line", 0, 1, 0, 0, 0).due(NONE, "line", 0, 0, 8, 0, 0);
    x.due(0, "told", 0, 4).due(1, "told", 1, 4).due(0, "told", 38, 4).due(1, "told", 39, 4);
  }

  private static void whatOfTheMetre(Run x) {
    x.due(NONE, "metre", -1, 4).due(4, "metre", 0, 5).due(6, "metre", 1, 7).due(0, "metre", 2, 9);
    x.due(NONE, "metre", 3, 4).due(NONE, "metre", 3, 0).due(NONE, "metre", -1, 13);
    x.due(5, "metre", 0, 4).due(7, "metre", 1, 6).due(9, "metre", 2, 0);
    x.due(BAD, "metre", 0, 0).due(BAD, "metre", 1, 13).due(BAD, "metre", 2, -1);
    x.due(4, "metre", 0, 4).due(6, "metre", 1, 6).due(0, "metre", 2, 0);
  }

  private static void whatOfALine(Run x) {
    x.due(0, "half", 4, 9, -1).due(1, "half", 5, 2, 5).due(NONE, "told", 0, 0).due(NONE, "told", -1, 0);
    x.due(0, "line", 0, 1, 7, 2, 1).due(1, "line", 1, 0, 0, 3, 0);
    int[][] want = {{NONE, 0, 1, 7, 2, 1, 1, 10, 0b0000101001, NONE}, {NONE, 1, 0, 0, 3, 0, 0, 10, 0b1001000010, NONE}};
    for (int l = 0; l < 2; l++) {
      for (int what = -1; what <= 8; what++) x.due(want[l][what + 1], "told", l, what);
    }
    x.due(NONE, "told", -1, 0).due(NONE, "told", 2, 0).due(NONE, "told", 2, 8);
    x.due(NONE, "told", 0, Integer.MIN_VALUE).due(NONE, "told", Integer.MAX_VALUE, 0);
  }

  private static void namesToSwap(Run x) {
    x.edges("swap", 0, 0, 9, NONE, 0, 5);
    x.edges("swap", 1, 0, 9, NONE, 5, 0);
    for (int n = 0; n < 10; n++) x.due(BAD, "swap", n, n);
    x.due(NONE, "swap", -1, -1).due(NONE, "swap", 10, 10).due(0, "swap", 0, 1).due(0, "swap", 9, 8);
  }

  private static void brokenByTheLatest(Run x) {
    x.due(0, "half", 4, 0, -1);
    for (int l = 0; l < 40; l++) x.due(l, "line", 0, 0, 0, l < 39 ? 0 : 1, 0);
    x.due(0, "broken", -1).due(NONE, "broken", 0).due(0, "swap", 0, 1);
    x.due(NONE, "broken", -2).due(39, "broken", -1).due(0, "broken", 0).due(1, "broken", 1);
    x.due(38, "broken", 38).due(NONE, "broken", 39).due(NONE, "broken", 40);
    x.due(0, "swap", 1, 2).due(40, "broken", -1).due(39, "broken", 39).due(NONE, "broken", 40);
    x.due(2, "told", 0, 3).due(2, "told", 39, 3);
    x.due(BAD, "swap", 2, 2).due(NONE, "swap", 2, 10).due(NONE, "swap", -1, 2).due(40, "broken", -1);
    x.due(NONE, "broken", Integer.MIN_VALUE).due(NONE, "broken", Integer.MAX_VALUE);
    x.due(1, "half", 6, 0, -1).due(40, "broken", -1).due(40, "swap", 2, 3).due(0, "broken", -1).due(NONE, "broken", 0);
    x.due(0, "told", 0, 0).due(1, "told", 39, 1).due(0, "swap", 7, 8).due(0, "broken", -1);
  }
}
