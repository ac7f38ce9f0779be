/** What the document says of singers, the book, stocks, masters, loans and villages, at its edges. */
final class SingerEdges {
  private static final int NONE = Run.NONE, BAD = Run.BAD, STATE = Run.STATE, FULL = Run.FULL, LOST = Run.LOST;
  private static final int NOBODY = Run.NOBODY;

  private SingerEdges() { }

  static void test(Sentences doc) {
    doc.test("SINGERS are numbered from 0 on, 8 at most", SingerEdges::eightSingers);
    doc.test("each with a YEAR of birth (0 .. 999)", SingerEdges::yearsOfBirth);
    doc.test("THE BOOK: an ENTRY (200 at most)", SingerEdges::entriesAtMost);
    doc.test("a SINGER LEARNS a LINE in a YEAR (from a SINGER, or by itself), or FORGETS it in a YEAR",
        SingerEdges::learnsOrForgets);
    doc.test("entered one by one, of any YEARS", SingerEdges::anyYears);
    doc.test("as was known behind so many ENTRIES", SingerEdges::behindSoMany);
    doc.test("each LINE of which", SingerEdges::eachLineAlone);
    doc.test("of the first so many with that YEAR or less", SingerEdges::yearOrLess);
    doc.test("the one of the greatest YEAR (of several the latest entered) is LEARNT", SingerEdges::greatestYear);
    doc.test("UNLIKE are two STOCKS: how many LINES just one of them has", SingerEdges::unlikeStocks);
    doc.test("of those who were born earlier the one whose STOCK is UNLIKE by the least", SingerEdges::bornEarlier);
    doc.test("of several the one born latest, then the least number", SingerEdges::ofSeveralMasters);
    doc.test("LINEAGE: UNLIKE of all SINGERS and their MASTERS, together", SingerEdges::lineageOfAll);
    doc.test("how many LINES with a SLIP both have, that the MASTERS of neither have (one without a MASTER: of none)",
        SingerEdges::loanOfSlips);
    doc.test("CORE: LINES that all SINGERS have", SingerEdges::coreOfAll);
    doc.test("the first LINE that is neither in its STOCK, nor in that of its MASTER, nor of any whose MASTER it is",
        SingerEdges::forgedLine);
    doc.test("A SINGER's VILLAGE (0 .. 9; 0 at first)", SingerEdges::villages);
    doc.test("the VILLAGE with the most SINGERS that have a LINE (of several the least)", SingerEdges::mostSingers);
    doc.test("Known: -1 all ENTRIES.", SingerEdges::knownEverywhere);
    promises(doc);
  }

  private static void promises(Sentences doc) {
    doc.test("A SINGER more: its number. BAD; FULL.", SingerEdges::singerMore);
    doc.test("VILLAGE of a SINGER: what it was. NONE; BAD.", SingerEdges::villageWas);
    doc.test("LEARNS a LINE (from: -1 by itself): ENTRIES. NONE; BAD: year, from itself; FULL.", SingerEdges::learn);
    doc.test("FORGETS: ENTRIES. NONE; BAD; FULL.", SingerEdges::forget);
    doc.test("Whether a LINE is in the STOCK of a SINGER in a YEAR as known: 1, 0. NONE; BAD: year.", SingerEdges::has);
    doc.test("How many LINES a STOCK has. NONE; BAD.", SingerEdges::stock);
    doc.test("UNLIKE. NONE; BAD.", SingerEdges::unlike);
    doc.test("MASTER; -5: none was born earlier. NONE; BAD.", SingerEdges::master);
    doc.test("LINEAGE. NONE: known; BAD.", SingerEdges::lineage);
    doc.test("LOAN. NONE; BAD: year, one SINGER.", SingerEdges::loan);
    doc.test("CORE: how many (i -1), the i-th. NONE (without SINGERS: none); BAD: year.", SingerEdges::core);
    doc.test("The VILLAGE whose song a LINE is; -5: nobody has it. NONE; BAD.", SingerEdges::whose);
  }

  private static void eightSingers(Run x) {
    x.lines("a");
    for (int s = 0; s < 7; s++) x.due(s, "singer", 100 - s);
    x.due(7, "count", 3).due(NONE, "village", 7, 1).due(7, "singer", 93).due(8, "count", 3);
    x.due(FULL, "singer", 92).due(8, "count", 3).due(NONE, "village", 8, 1).due(0, "village", 7, 1);
    x.due(1, "learn", 7, 0, 6, 0).due(NONE, "learn", 8, 0, -1, 0).due(NONE, "learn", 7, 0, 8, 0);
    x.due(7, "master", 6, 999, 0).due(NOBODY, "master", 7, 999, -1);
  }

  /** From whom it was learnt changes nothing; who has not learnt it can forget it, or be learnt from. */
  private static void learnsOrForgets(Run x) {
    x.lines("ab").singer(500).singer(10).singer(10);
    x.due(1, "learn", 0, 0, 1, 5).due(1, "has", 0, 0, 5, -1).due(0, "has", 1, 0, 999, -1).due(0, "has", 2, 0, 999, -1);
    x.due(2, "learn", 1, 0, -1, 5).due(1, "has", 1, 0, 5, -1).due(3, "forget", 2, 1, 6).due(0, "has", 2, 1, 999, -1);
    x.due(4, "learn", 2, 1, 0, 5).due(1, "has", 2, 1, 5, -1).due(0, "has", 2, 1, 6, -1);
    x.due(5, "forget", 0, 0, 7).due(1, "has", 0, 0, 6, -1).due(0, "has", 0, 0, 7, -1).due(1, "has", 1, 0, 7, -1);
  }

  /** An entry of one line, or of one singer, says nothing of another. */
  private static void eachLineAlone(Run x) {
    x.lines("a".repeat(38)).singer(1).singer(2);
    for (int l = 0; l < 38; l++) x.due(l + 1, "learn", 0, l, -1, l);
    x.due(38, "stock", 0, 37, -1).due(37, "stock", 0, 36, -1).due(1, "stock", 0, 0, -1).due(0, "stock", 1, 37, -1);
    for (int l = 0; l < 38; l += 2) x.due(39 + l / 2, "forget", 0, l, 40);
    x.due(19, "stock", 0, 40, -1).due(38, "stock", 0, 39, -1).due(38, "stock", 0, 40, 38).due(37, "stock", 0, 40, 39);
    for (int l = 0; l < 38; l++) x.due(l % 2, "has", 0, l, 40, -1);
  }

  private static void yearsOfBirth(Run x) {
    x.edges("singer", 0, 0, 999, BAD, 0).due(4, "count", 3);
    // Born in 0, 1, 998 and 999, each the master of the next one.
    x.due(NOBODY, "master", 0, 0, -1).due(0, "master", 1, 0, -1).due(1, "master", 2, 0, -1).due(2, "master", 3, 0, -1);
  }

  private static void entriesAtMost(Run x) {
    x.lines("a").singer(0);
    for (int e = 1; e < 200; e++) x.due(e, "learn", 0, 0, -1, 0);
    x.due(199, "count", 4).due(NONE, "stock", 0, 0, 200).due(200, "forget", 0, 0, 0).due(200, "count", 4);
    x.due(0, "stock", 0, 0, 200).due(1, "stock", 0, 0, 199).due(NONE, "stock", 0, 0, 201);
    x.due(FULL, "forget", 0, 0, 0).due(FULL, "learn", 0, 0, -1, 0).due(200, "count", 4).due(0, "has", 0, 0, 999, -1);
    Run y = x.another().lines("a").singer(0);
    for (int e = 1; e < 200; e++) y.due(e, "forget", 0, 0, 0);
    y.due(200, "learn", 0, 0, -1, 0).due(FULL, "learn", 0, 0, -1, 0).due(FULL, "forget", 0, 0, 0)
        .due(1, "has", 0, 0, 0, -1);
  }

  private static void anyYears(Run x) {
    x.lines("ab").singer(500);
    x.edges("learn", 3, 0, 999, BAD, 0, 0, -1, 0).edges("forget", 2, 0, 999, BAD, 0, 1, 0).due(8, "count", 4);
    // A later year may be entered first, and years ahead of birth are years, too.
    Run y = x.another().lines("a").singer(500);
    y.due(1, "forget", 0, 0, 30).due(2, "learn", 0, 0, -1, 10).due(3, "learn", 0, 0, -1, 20);
    int[][] want = {{9, 0}, {10, 1}, {20, 1}, {29, 1}, {30, 0}, {31, 0}, {999, 0}};
    for (int[] w : want) y.due(w[1], "has", 0, 0, w[0], -1);
  }

  private static void behindSoMany(Run x) {
    x.lines("aaa").singer(0);
    x.due(1, "learn", 0, 0, -1, 5).due(2, "learn", 0, 1, -1, 5).due(3, "forget", 0, 0, 5).due(4, "learn", 0, 2, -1, 5);
    int[] stocks = {0, 1, 2, 1, 2};
    x.due(NONE, "stock", 0, 5, -2).due(2, "stock", 0, 5, -1).due(NONE, "stock", 0, 5, 5);
    for (int known = 0; known <= 4; known++) x.due(stocks[known], "stock", 0, 5, known);
    int[] first = {0, 1, 1, 0, 0}, last = {0, 0, 0, 0, 1};
    for (int known = 0; known <= 4; known++) {
      x.due(first[known], "has", 0, 0, 5, known).due(last[known], "has", 0, 2, 5, known);
    }
  }

  private static void yearOrLess(Run x) {
    x.lines("a").singer(0).due(1, "learn", 0, 0, -1, 10).due(2, "forget", 0, 0, 20);
    int[][] want = {{0, 0}, {9, 0}, {10, 1}, {11, 1}, {19, 1}, {20, 0}, {21, 0}, {999, 0}};
    for (int[] w : want) x.due(w[1], "has", 0, 0, w[0], -1).due(w[1], "stock", 0, w[0], -1);
    Run y = x.another().lines("a").singer(0).due(1, "learn", 0, 0, -1, 999).due(2, "learn", 0, 0, -1, 0);
    y.due(0, "has", 0, 0, 998, 1).due(1, "has", 0, 0, 999, 1).due(1, "has", 0, 0, 0, 2).due(0, "has", 0, 0, 0, 1);
  }

  private static void greatestYear(Run x) {
    x.lines("ab").singer(0).singer(0).due(1, "learn", 0, 0, -1, 10);
    x.due(2, "forget", 0, 0, 9).due(1, "has", 0, 0, 10, -1).due(0, "has", 0, 0, 9, -1);
    x.due(3, "forget", 0, 0, 10).due(0, "has", 0, 0, 10, -1).due(4, "learn", 0, 0, -1, 10).due(1, "has", 0, 0, 10, -1);
    x.due(5, "forget", 0, 0, 11).due(1, "has", 0, 0, 10, -1).due(0, "has", 0, 0, 11, -1);
    x.due(6, "learn", 0, 0, 1, 10).due(0, "has", 0, 0, 11, -1).due(7, "learn", 0, 0, 1, 11).due(1, "has", 0, 0, 11, -1);
    // Another singer's entries, and another line's, are not looked at.
    x.due(8, "forget", 1, 0, 12).due(9, "forget", 0, 1, 12).due(1, "has", 0, 0, 12, -1).due(0, "has", 1, 0, 12, -1);
  }

  private static void unlikeStocks(Run x) {
    x.lines("a".repeat(40)).singer(0).singer(0).due(0, "unlike", 0, 1, 0, -1);
    for (int l = 0; l < 40; l++) x.due(l + 1, "learn", 0, l, -1, 0).due(l + 1, "unlike", 0, 1, 0, -1);
    for (int l = 0; l < 40; l++) x.due(l + 41, "learn", 1, l, 0, l == 39 ? 1 : 0);
    x.due(1, "unlike", 0, 1, 0, -1).due(1, "unlike", 1, 0, 0, -1).due(0, "unlike", 0, 1, 1, -1)
        .due(1, "unlike", 0, 1, 1, 79);
    x.due(40, "unlike", 0, 1, 1, 40).due(0, "unlike", 0, 0, 1, -1).due(81, "forget", 0, 39, 2)
        .due(1, "unlike", 0, 1, 2, -1);
  }

  private static void bornEarlier(Run x) {
    x.lines("aaaa").singer(100, 0, 1, 2).singer(101, 0, 1, 2).singer(99, 3);
    x.due(2, "master", 0, 0, -1).due(0, "master", 1, 0, -1).due(NOBODY, "master", 2, 0, -1);
    // One of the same year is none, however like it is.
    x.singer(100, 0, 1, 2).due(2, "master", 3, 0, -1).due(2, "master", 0, 0, -1).due(0, "master", 1, 0, -1);
    x.singer(1, 0).due(4, "master", 0, 0, -1).due(4, "master", 2, 0, -1).due(NOBODY, "master", 4, 0, -1);
    Run y = x.another().lines("aaaa").singer(10, 0).singer(11, 0, 1).singer(12, 0, 1, 2).singer(50, 0, 1, 2, 3);
    y.due(2, "master", 3, 0, -1).due(11, "forget", 2, 0, 5).due(12, "forget", 2, 1, 5);
    y.due(1, "master", 3, 5, -1).due(2, "master", 3, 4, -1);
  }

  private static void ofSeveralMasters(Run x) {
    x.lines("aa").singer(50, 0).singer(10).singer(12).singer(11).singer(12).due(2, "master", 0, 0, -1);
    // Unlike by one less outdoes a later birth.
    x.due(2, "learn", 1, 0, -1, 5).due(1, "master", 0, 5, -1).due(2, "master", 0, 4, -1).due(2, "master", 0, 5, 1);
    x.due(3, "learn", 3, 0, -1, 6).due(3, "master", 0, 6, -1).due(4, "learn", 4, 0, -1, 7).due(4, "master", 0, 7, -1);
    x.due(5, "learn", 2, 0, -1, 8).due(2, "master", 0, 8, -1).due(6, "learn", 2, 1, -1, 9).due(4, "master", 0, 9, -1);
    x.due(3, "master", 2, 0, -1).due(3, "master", 4, 0, -1).due(1, "master", 3, 0, -1);
  }

  private static void lineageOfAll(Run x) {
    x.lines("aaaa").due(0, "lineage", 0, -1).singer(10, 0, 1).due(0, "lineage", 0, -1);
    x.singer(10, 2, 3).due(0, "lineage", 0, -1).singer(11, 0, 1).due(0, "lineage", 0, -1);
    x.due(7, "forget", 2, 0, 1).due(1, "lineage", 1, -1).due(0, "lineage", 0, -1).due(0, "lineage", 1, 6);
    x.singer(11).due(1 + 2, "lineage", 1, -1);
    // One who is older than all: a master now of those who had none, and of the one without lines.
    x.singer(9).due(2 + 2 + 1 + 0, "lineage", 1, -1);
    for (int s = 5; s < 8; s++) x.singer(12);
    x.due(5, "lineage", 1, -1).due(8, "learn", 7, 0, -1, 1).due(6, "lineage", 1, -1).due(5, "lineage", 1, 7);
  }

  /** Masters 0 and 1; 2 learns from 0, 3 from 1; line 4 has no slip. */
  private static Run lenders(Run x) {
    x.due(0, "half", 4, 0, -1);
    for (int l = 0; l < 5; l++) x.due(l, "line", 0, 0, 0, 0, l == 4 ? 0 : 1);
    return x.singer(10, 0).singer(10, 1).singer(20, 0).singer(20, 1);
  }

  private static void loanOfSlips(Run x) {
    lenders(x).due(0, "master", 2, 0, -1).due(1, "master", 3, 0, -1).due(0, "loan", 2, 3, 0, -1);
    x.due(5, "learn", 2, 2, -1, 5).due(0, "loan", 2, 3, 5, -1).due(6, "learn", 3, 2, 2, 6).due(1, "loan", 2, 3, 6, -1);
    x.due(1, "loan", 3, 2, 6, -1).due(0, "loan", 2, 3, 5, -1).due(0, "loan", 2, 3, 6, 5);
    x.due(7, "learn", 2, 3, -1, 7).due(8, "learn", 3, 3, 2, 7).due(2, "loan", 2, 3, 7, -1);
    // A line without a slip tells nothing.
    x.due(9, "learn", 2, 4, -1, 8).due(10, "learn", 3, 4, -1, 8).due(2, "loan", 2, 3, 8, -1);
    // One master has it, then the other one too.
    x.due(11, "learn", 0, 2, -1, 9).due(1, "loan", 2, 3, 9, -1).due(12, "learn", 1, 3, -1, 10)
        .due(0, "loan", 2, 3, 10, -1);
    // Those without masters, and with one's own master.
    x.due(0, "loan", 0, 1, 10, -1).due(13, "learn", 1, 2, -1, 11).due(1, "loan", 0, 1, 11, -1)
        .due(0, "loan", 0, 2, 11, -1);
  }

  private static void coreOfAll(Run x) {
    x.lines("aaaa").due(0, "core", 0, -1, -1).singer(0, 1, 3).due(2, "core", 0, -1, -1);
    x.singer(0, 1, 3).due(2, "core", 0, -1, -1).due(1, "core", 0, -1, 0).due(3, "core", 0, -1, 1);
    x.due(5, "forget", 1, 1, 5).due(2, "core", 4, -1, -1).due(1, "core", 5, -1, -1).due(3, "core", 5, -1, 0);
    x.due(NONE, "core", 5, -1, 1).due(3, "core", 4, -1, 1).due(2, "core", 5, 4, -1);
    for (int s = 2; s < 8; s++) x.singer(0, 3);
    x.due(1, "core", 5, -1, -1).due(12, "forget", 7, 3, 6).due(0, "core", 6, -1, -1).due(NONE, "core", 6, -1, 0);
    Run y = x.another().lines("a".repeat(40)).singer(0);
    for (int l = 0; l < 40; l++) y.due(l + 1, "learn", 0, l, -1, 0);
    y.due(40, "core", 0, -1, -1).due(0, "core", 0, -1, 0).due(39, "core", 0, -1, 39).due(NONE, "core", 0, -1, 40);
  }

  /** 0 is the master of 1, and 1 of 2; 3 is nobody's. */
  private static void forgedLine(Run x) {
    x.lines("aaaaa").singer(10, 0).singer(20, 1).singer(30, 1, 2).singer(30, 3);
    x.due(0, "master", 1, 0, -1).due(1, "master", 2, 0, -1).due(1, "master", 3, 0, -1).due(6, "learn", 3, 0, -1, 1);
    x.due(0, "master", 3, 1, -1);
    x.row(1).due(NOBODY, "forged", 1, 1, -1).due(NOBODY, "forged", 0, 1, -1).due(NOBODY, "forged", 2, 1, -1);
    x.due(0, "forged", 3, 1, -1).row(0).due(NOBODY, "forged", 1, 1, -1).due(0, "forged", 2, 1, -1);
    x.row(2).due(NOBODY, "forged", 1, 1, -1).due(0, "forged", 0, 1, -1).row(3).due(0, "forged", 1, 1, -1);
    x.due(NOBODY, "forged", 0, 1, -1).row(4).due(0, "forged", 1, 1, -1);
    x.row(1, 0, 2, 3, 4).due(3, "forged", 1, 1, -1).row(LOST, 0, LOST, 4, 3).due(3, "forged", 1, 1, -1);
    x.row(LOST).due(NOBODY, "forged", 1, 1, -1).row(LOST, LOST).due(NOBODY, "forged", 3, 1, -1);
    Run y = x.another().lines("aa").singer(0, 0).row(0, 24, false).due(NOBODY, "forged", 0, 0, -1);
    y.row(0, 23, false).due(24, "put", 23, 1).due(23, "forged", 0, 0, -1).due(0, "forged", 0, 0, 0);
    // A master may have a greater number than the one whose master it is.
    Run z = x.another().lines("aa").singer(20, 0).singer(10, 1).due(1, "master", 0, 0, -1).row(1, 0);
    z.due(NOBODY, "forged", 0, 0, -1).due(NOBODY, "forged", 1, 0, -1).singer(19, 0).due(2, "master", 0, 0, -1);
    z.due(0, "forged", 0, 0, -1).due(NOBODY, "forged", 1, 0, -1).due(NOBODY, "forged", 2, 0, -1);
  }

  private static void villages(Run x) {
    x.singer(5).singer(6).edges("village", 1, 0, 9, BAD, 0, 0).due(9, "village", 0, 0).due(0, "village", 1, 9);
    x.due(0, "village", 0, 1).due(9, "village", 1, 9);
  }

  private static void mostSingers(Run x) {
    x.lines("ab").singer(0, 0).singer(0, 0).singer(0, 0).singer(0, 0).singer(0);
    x.due(0, "whose", 0, 0, -1).due(0, "village", 0, 9).due(0, "whose", 0, 0, -1).due(0, "village", 1, 9);
    // Two of village 0, two of village 9; then one more, who has it not, and then has it.
    x.due(0, "whose", 0, 0, -1).due(0, "village", 4, 9).due(0, "whose", 0, 0, -1).due(5, "learn", 4, 0, -1, 3);
    x.due(9, "whose", 0, 3, -1).due(0, "whose", 0, 2, -1).due(0, "whose", 0, 3, 4).due(0, "village", 2, 8);
    x.due(9, "whose", 0, 0, -1).due(0, "village", 3, 8).due(8, "whose", 0, 0, -1).due(9, "whose", 0, 3, -1);
    x.due(NOBODY, "whose", 1, 3, -1);
    // Each village can be it.
    Run y = x.another().lines("a").singer(0, 0).singer(0);
    for (int village = 0; village <= 9; village++) {
      y.taken("village", 0, village).taken("village", 1, 9 - village).due(village, "whose", 0, 0, -1);
    }
  }

  /** Three entries, and all calls that ask what was known: behind -1 to 3 of them. */
  private static void knownEverywhere(Run x) {
    x.lines("ab").singer(5).singer(6);
    knownIn(x.another().lines("ab").singer(5).singer(6).scene(0, "A=a").row(LOST).due(0, "record", 0, 0, 5), 0);
    x.due(1, "learn", 0, 0, -1, 1).due(2, "learn", 1, 0, 0, 2).due(3, "forget", 0, 0, 3).scene(0, "A=a").row(LOST);
    x.due(0, "record", 1, 0, 5);
    knownIn(x, 3);
    for (String call : new String[] {"stock", "master", "forged"}) {
      int all = x.ask(call, 1, 5, 3);
      x.due(all, call, 1, 5, -1);
    }
    x.due(1, "lineage", 5, -1).due(1, "lineage", 5, 3).due(0, "lineage", 5, 2);
  }

  private static void knownIn(Run x, int entries) {
    x.edges("has", 3, -1, entries, NONE, 0, 0, 5, 0).edges("stock", 2, -1, entries, NONE, 0, 5, 0);
    x.edges("unlike", 3, -1, entries, NONE, 0, 1, 5, 0).edges("master", 2, -1, entries, NONE, 0, 5, 0);
    x.edges("lineage", 1, -1, entries, NONE, 5, 0).edges("loan", 3, -1, entries, NONE, 0, 1, 5, 0);
    x.edges("core", 1, -1, entries, NONE, 5, 0, -1).edges("whose", 2, -1, entries, NONE, 0, 5, 0);
    x.edges("runs", 3, -1, entries, NONE, 0, 0, 5, 0).edges("forged", 2, -1, entries, NONE, 0, 5, 0);
    for (int what = 0; what < 4; what++) x.edges("heard", 1, -1, entries, NONE, 0, 0, what);
    x.due(NONE, "filled", 0, -2, 0).due(NONE, "filled", 0, entries + 1, 0).due(STATE, "filled", 0, 0, 0);
    x.due(entries == 0 ? STATE : 0, "filled", 0, -1, 0).due(entries == 0 ? STATE : 0, "filled", 0, entries, 0);
    x.due(NONE, "stock", 0, 5, Integer.MIN_VALUE).due(NONE, "stock", 0, 5, Integer.MAX_VALUE);
  }

  private static void singerMore(Run x) {
    x.due(BAD, "singer", -1).due(BAD, "singer", 1000).due(BAD, "singer", Integer.MIN_VALUE);
    x.due(BAD, "singer", Integer.MAX_VALUE).due(0, "count", 3);
    for (int s = 0; s < 8; s++) x.due(s, "singer", s % 2 == 0 ? 999 : 0);
    x.due(FULL, "singer", 0).due(FULL, "singer", 999).due(BAD, "singer", -1).due(BAD, "singer", 1000);
  }

  private static void villageWas(Run x) {
    x.due(NONE, "village", 0, 0).singer(0).singer(0).edges("village", 0, 0, 1, NONE, 0, 5);
    x.due(5, "village", 0, 6).due(5, "village", 1, 7).due(BAD, "village", 0, 10).due(BAD, "village", 1, -1);
    x.due(NONE, "village", 2, 10).due(NONE, "village", -1, -1).due(6, "village", 0, 0).due(7, "village", 1, 0);
  }

  private static void learn(Run x) {
    x.lines("ab").due(NONE, "learn", 0, 0, -1, 0).singer(0).singer(0).singer(0);
    x.edges("learn", 0, 0, 2, NONE, 0, 0, -1, 0).edges("learn", 1, 0, 1, NONE, 0, 0, -1, 0).due(8, "count", 4);
    x.due(NONE, "learn", 1, 0, -2, 0).due(9, "learn", 1, 0, -1, 0).due(10, "learn", 1, 0, 0, 0);
    x.due(BAD, "learn", 1, 0, 1, 0).due(11, "learn", 1, 0, 2, 0).due(NONE, "learn", 1, 0, 3, 0);
    x.due(BAD, "learn", 0, 0, 0, 0).due(BAD, "learn", 2, 0, 2, 0).due(NONE, "learn", 3, 0, 3, 0);
    x.due(BAD, "learn", 1, 0, 0, -1).due(BAD, "learn", 1, 0, 0, 1000).due(NONE, "learn", 1, 2, 1, 1000);
    x.due(NONE, "learn", 1, 0, 3, 1000).due(11, "count", 4);
  }

  private static void forget(Run x) {
    x.lines("ab").due(NONE, "forget", 0, 0, 0).singer(0).singer(0);
    x.edges("forget", 0, 0, 1, NONE, 0, 0, 0).edges("forget", 1, 0, 1, NONE, 0, 0, 0).due(8, "count", 4);
    x.due(BAD, "forget", 0, 0, -1).due(9, "forget", 0, 0, 0).due(10, "forget", 0, 0, 999)
        .due(BAD, "forget", 0, 0, 1000);
    x.due(NONE, "forget", 2, 0, -1).due(NONE, "forget", 0, 2, 1000).due(10, "count", 4).due(0, "stock", 0, 999, -1);
  }

  private static void has(Run x) {
    x.lines("ab").due(NONE, "has", 0, 0, 0, -1).singer(0, 0).singer(0, 1);
    x.edges("has", 0, 0, 1, NONE, 0, 0, 0, -1).edges("has", 1, 0, 1, NONE, 0, 0, 0, -1);
    x.edges("has", 2, 0, 999, BAD, 0, 0, 0, -1).edges("has", 3, -1, 2, NONE, 0, 0, 0, -1);
    x.due(1, "has", 0, 0, 0, -1).due(0, "has", 0, 1, 0, -1).due(0, "has", 1, 0, 0, -1).due(1, "has", 1, 1, 0, -1);
    x.due(0, "has", 1, 1, 0, 1).due(NONE, "has", 0, 0, -1, 3).due(NONE, "has", 0, 2, 1000, 0)
        .due(NONE, "has", 2, 0, -1, 0);
  }

  private static void stock(Run x) {
    x.lines("a".repeat(40)).due(NONE, "stock", 0, 0, -1).singer(0).singer(0).due(0, "stock", 0, 0, -1);
    for (int l = 0; l < 40; l++) x.due(l + 1, "learn", 0, l, -1, 0).due(l + 1, "stock", 0, 0, -1);
    x.edges("stock", 0, 0, 1, NONE, 0, 0, -1).edges("stock", 1, 0, 999, BAD, 0, 0, -1)
        .edges("stock", 2, -1, 40, NONE, 0, 0, 0);
    x.due(41, "learn", 0, 39, -1, 0).due(40, "stock", 0, 0, -1).due(42, "forget", 0, 39, 0).due(39, "stock", 0, 0, -1);
    x.due(43, "forget", 0, 39, 0).due(39, "stock", 0, 0, -1).due(0, "stock", 1, 0, -1).due(NONE, "stock", 2, 1000, -1);
  }

  private static void unlike(Run x) {
    x.lines("a").singer(0, 0).singer(0).edges("unlike", 0, 0, 1, NONE, 0, 0, 0, -1);
    x.edges("unlike", 1, 0, 1, NONE, 0, 0, 0, -1).edges("unlike", 2, 0, 999, BAD, 0, 1, 0, -1);
    x.edges("unlike", 3, -1, 1, NONE, 0, 1, 0, 0).due(1, "unlike", 0, 1, 0, 1).due(0, "unlike", 0, 1, 0, 0);
    x.due(NONE, "unlike", 2, 0, -1, 0).due(NONE, "unlike", 0, 2, 1000, 0).due(NONE, "unlike", 0, 1, -1, 2);
  }

  private static void master(Run x) {
    x.lines("a").due(NONE, "master", 0, 0, -1).singer(5, 0).singer(6).singer(5);
    x.edges("master", 0, 0, 2, NONE, 0, 0, -1).edges("master", 1, 0, 999, BAD, 1, 0, -1)
        .edges("master", 2, -1, 1, NONE, 1, 0, 0);
    x.due(NOBODY, "master", 0, 0, -1).due(2, "master", 1, 0, -1).due(NOBODY, "master", 2, 0, -1)
        .due(0, "master", 1, 0, 0);
    x.due(BAD, "master", 0, -1, -1).due(BAD, "master", 0, 1000, -1).due(NONE, "master", 3, -1, -1)
        .due(NONE, "master", 0, -1, 2);
  }

  private static void lineage(Run x) {
    x.lines("a").edges("lineage", 0, 0, 999, BAD, 0, -1).due(0, "lineage", 0, 0).due(NONE, "lineage", 0, 1);
    x.singer(5, 0).singer(6).edges("lineage", 0, 0, 999, BAD, 0, -1).edges("lineage", 1, -1, 1, NONE, 0, 0);
    x.due(1, "lineage", 0, -1).due(0, "lineage", 0, 0).due(NONE, "lineage", -1, 2).due(NONE, "lineage", 1000, -2);
  }

  private static void loan(Run x) {
    lenders(x).due(NONE, "loan", -1, 2, 0, -1).due(0, "loan", 0, 2, 0, -1).due(0, "loan", 3, 2, 0, -1)
        .due(NONE, "loan", 4, 2, 0, -1);
    x.due(NONE, "loan", 2, -1, 0, -1).due(0, "loan", 2, 0, 0, -1).due(0, "loan", 2, 3, 0, -1)
        .due(NONE, "loan", 2, 4, 0, -1);
    x.edges("loan", 2, 0, 999, BAD, 0, 1, 0, -1).edges("loan", 3, -1, 4, NONE, 0, 1, 0, 0);
    for (int s = 0; s < 4; s++) x.due(BAD, "loan", s, s, 0, -1);
    x.due(NONE, "loan", 4, 4, 0, -1).due(NONE, "loan", -1, -1, 0, -1).due(NONE, "loan", 0, 0, -1, 5);
    x.due(BAD, "loan", 0, 0, 1000, -1);
  }

  private static void core(Run x) {
    x.due(0, "core", 0, -1, -1).due(NONE, "core", 0, -1, 0).due(NONE, "core", 0, -1, -2).due(BAD, "core", -1, -1, -1);
    x.due(BAD, "core", 1000, -1, -1).due(0, "core", 999, 0, -1).due(NONE, "core", 0, 1, -1);
    x.lines("aaa").due(0, "core", 0, -1, -1).due(NONE, "core", 0, -1, 0).singer(0, 0, 2);
    x.due(NONE, "core", 0, -1, -2).due(2, "core", 0, -1, -1).due(0, "core", 0, -1, 0).due(2, "core", 0, -1, 1);
    x.due(NONE, "core", 0, -1, 2).due(NONE, "core", 0, -1, 3).due(NONE, "core", 0, -1, Integer.MAX_VALUE);
    x.due(NONE, "core", 0, -1, Integer.MIN_VALUE).edges("core", 0, 0, 999, BAD, 0, -1, -1);
    x.edges("core", 0, 0, 999, BAD, 0, -1, 1).edges("core", 1, -1, 2, NONE, 0, -1, -1);
    x.due(NONE, "core", -1, -1, -2).due(NONE, "core", 1000, 3, -1).due(NONE, "core", -1, -2, -1);
    // There are three lines: whatever the year, there is no fourth in the core.
    x.due(BAD, "core", -1, -1, 2).due(NONE, "core", -1, -1, 3).due(NONE, "core", 1000, -1, 4);
  }

  private static void whose(Run x) {
    x.lines("ab").due(NOBODY, "whose", 0, 0, -1).singer(0).due(NOBODY, "whose", 0, 0, -1).due(1, "learn", 0, 0, -1, 4);
    x.edges("whose", 0, 0, 1, NONE, 0, 0, -1).edges("whose", 1, 0, 999, BAD, 0, 0, -1)
        .edges("whose", 2, -1, 1, NONE, 0, 4, 0);
    x.due(NOBODY, "whose", 0, 3, -1).due(0, "whose", 0, 4, -1).due(NOBODY, "whose", 0, 4, 0).due(2, "forget", 0, 0, 5);
    x.due(0, "whose", 0, 4, -1).due(NOBODY, "whose", 0, 5, -1).due(0, "village", 0, 9).due(9, "whose", 0, 4, -1);
    x.due(NONE, "whose", 2, -1, -1).due(NONE, "whose", 0, 1000, 3);
  }
}
