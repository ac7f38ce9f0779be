/** What the document says of the tape, scenes, the hall, singing by a number and reading back, at its edges. */
final class SceneEdges {
  private static final int NONE = Run.NONE, BAD = Run.BAD, STATE = Run.STATE, FULL = Run.FULL, LOST = Run.LOST;
  private static final int MANY = 1000000;

  private SceneEdges() { }

  static void test(Sentences doc) {
    doc.test("SCENES A .. H are read from THE TAPE", SceneEdges::letters);
    doc.test("(bytes, 60 at most)", SceneEdges::sixtyBytes);
    doc.test("LETTER = ITEMS; ITEM: a SLOT's letter a .. h, a SCENE's letter, [ ITEMS ] (sung or left out)",
        SceneEdges::eachByteAtEachPlace);
    doc.test("{ ITEMS } (sung 0 to HALL times, one behind the other)", SceneEdges::timesRound);
    doc.test("( ITEMS | ITEMS ) (one of both)", SceneEdges::oneOfBoth);
    doc.test("ITEMS: one or more.", SceneEdges::oneOrMore);
    doc.test("A SCENE that stands in a text must be told already", SceneEdges::mustBeTold);
    doc.test("a SCENE that stands in another one can't be told anew", SceneEdges::notToldAnew);
    doc.test("kind 1 the place of the first byte with which no such text can go on", SceneEdges::firstByte);
    doc.test("(the size of THE TAPE, if it ends too early)", SceneEdges::endsTooEarly);
    doc.test("else kind 2 the place of the first SCENE that is not told, or is the one that is told",
        SceneEdges::firstScene);
    doc.test("else kind 3: it stands in another one (place 0)", SceneEdges::standsInAnother);
    doc.test("HALL is 0 .. 3 (1 at first)", SceneEdges::hall);
    singing(doc);
    reading(doc);
    promises(doc);
  }

  private static void singing(Sentences doc) {
    doc.test("A RUN of a SCENE by a STOCK (a set of LINES): ITEMS in order", SceneEdges::itemsInOrder);
    doc.test("It makes a row of LINES", SceneEdges::itemsInOrder);
    doc.test("of [ ] 0 left out, 1 sung; of { } how often; of ( ) 0 the first, 1 the second; of a SLOT which LINE of"
        + " the STOCK with that SLOT", SceneEdges::choices);
    doc.test("each choice of n ways takes the number's remainder by n, and the number becomes what it is by n, cut",
        SceneEdges::remainders);
    doc.test("(of 0 ways: it can't be sung)", SceneEdges::noWays);
    doc.test("40 LINES at most, and", SceneEdges::fortyLinesSung);
    doc.test("2000 ITEMS gone through", SceneEdges::items);
    doc.test("(each as it is come to: SLOTS, SCENES, brackets, and those within them, each time anew)",
        SceneEdges::itemsOfEachKind);
    doc.test("beyond that it can't be", SceneEdges::beyondThatNothingChanges);
  }

  private static void reading(Sentences doc) {
    doc.test("RUNS of a SCENE by a STOCK that make a told row (24 at most) of LINES", SceneEdges::rowsOfTwentyFour);
    doc.test("some LOST (any LINE of the STOCK)", SceneEdges::lostOnes);
    doc.test("how many ways to choose there are", SceneEdges::waysToChoose);
    doc.test("(1000000: as many or more;", SceneEdges::aMillion);
    doc.test("ways that make no LINE somewhere are counted as all others", SceneEdges::waysWithoutLines);
  }

  private static void promises(Sentences doc) {
    doc.test("The n lowest bytes of w, the highest first, come behind THE TAPE's: how many it has.",
        SceneEdges::lowestBytes);
    doc.test("BAD: n not 1 .. 8; FULL.", SceneEdges::bytesAtOnce);
    doc.test("THE TAPE, which is empty then, is a SCENE: its number; -1000 times the kind of the FAULT, less its"
        + " place.", SceneEdges::emptyThen);
    doc.test("HALL: what it was. BAD.", SceneEdges::hallWas);
    doc.test("A SCENE is SUNG by a number (0 or more) by the STOCK of a SINGER in a YEAR (all known): how many LINES.",
        SceneEdges::sungByANumber);
    doc.test("NONE: scene (not told, too), singer; BAD; STATE: it can't be.", SceneEdges::singRefused);
    doc.test("The i-th LINE of what was SUNG latest. NONE.", SceneEdges::sungLatest);
  }

  private static void letters(Run x) {
    x.scene(-1000, "@=a").scene(0, "A=a").scene(1, "B=a").scene(6, "G=a").scene(7, "H=a").scene(-1000, "I=a");
    x.scene(-1000, "a=a").scene(-1000, "h=a").due(4, "count", 2);
    for (int s = 2; s < 6; s++) x.scene(s, (char) ('A' + s) + "=AB");
    x.due(8, "count", 2).scene(2, "C=a").due(8, "count", 2);
  }

  private static void sixtyBytes(Run x) {
    x.lines("a").singer(0, 0);
    x.feed("A=" + "[a]".repeat(19)).due(59, "count", 6).due(0, "scene");
    x.feed("B=" + "[a]".repeat(19) + "a").due(60, "count", 6).due(FULL, "feed", 'a', 1).due(60, "count", 6);
    x.due(1, "scene").due(0, "count", 6);
    x.due(0, "sing", 0, 0, 0, 0).due(1, "sing", 1, 0, 0, 0);
    x.feed("C=" + "a".repeat(57)).due(59, "count", 6).due(FULL, "feed", 'a', 2).due(60, "feed", 'a', 1);
    x.due(FULL, "feed", 0, 1).due(FULL, "feed", 0, 8).due(2, "scene");
    x.feed("C=" + "a".repeat(50)).due(52, "count", 6).due(60, "feed", 0x6161616161616161L, 8).due(2, "scene");
    x.feed("C=" + "a".repeat(51)).due(53, "count", 6).due(FULL, "feed", 0x6161616161616161L, 8).due(53, "count", 6);
    x.due(60, "feed", 0x61616161616161L, 7).due(2, "scene");
  }

  /** At each kind of place all 256 bytes: those with which a text goes on, and all others. */
  private static void eachByteAtEachPlace(Run x) {
    String item = "abcdefghABCDEFGH[{(";
    String[][] places = {
      {"", "ABCDEFGH"}, {"C", "="}, {"C=", item}, {"C=a", item}, {"C=A", item}, {"C=[", item}, {"C=[a", item + "]"},
      {"C={", item}, {"C={a", item + "}"}, {"C=(", item}, {"C=(a", item + "|"}, {"C=(a|", item},
      {"C=(a|b", item + ")"}, {"C=[a]", item}, {"C={a}", item}, {"C=(a|b)", item}, {"C=[{a}", item + "]"},
      {"C={(a|[b]", item + ")"}, {"C=([a]", item + "|"}};
    for (String[] place : places) {
      Run y = x.another();
      for (int b = 0; b < 256; b++) {
        if (y.calls() > 500) y = x.another();
        byteAt(y, place[0], (char) b, place[1]);
      }
    }
  }

  /** With a byte that does not fit the fault is its place; with one that fits it is elsewhere or none. */
  private static void byteAt(Run x, String ahead, char b, String fitting) {
    x.feed(ahead + b);
    int answer = x.ask("scene");
    boolean fits = fitting.indexOf(b) >= 0;
    x.holds("byte " + (int) b + " behind " + ahead, fits == (answer != -1000 - ahead.length()));
  }

  private static void timesRound(Run x) {
    for (int hall = 0; hall <= 3; hall++) {
      Run y = x.another().lines("ab").singer(0, 0, 1).scene(0, "A={a}b");
      y.due(1, "hall", hall);
      for (int times = 0; times <= hall; times++) y.due(times + 1, "sing", 0, 0, 0, times);
      // The next number begins at 0 times again.
      y.due(1, "sing", 0, 0, 0, hall + 1).sung(1);
      for (int times = 0; times <= 4; times++) {
        for (int k = 0; k <= times; k++) y.due(k + 1, "put", k, k == times ? 1 : 0);
        y.due(times <= hall ? 1 : 0, "runs", 0, 0, 0, -1);
      }
    }
    x.lines("ab").singer(0, 0, 1).scene(0, "A={ab}").due(1, "hall", 2).due(4, "sing", 0, 0, 0, 2).sung(0, 1, 0, 1);
    x.row(0, 1, 0, 1).due(1, "runs", 0, 0, 0, -1).row(0, 0, 1, 1).due(0, "runs", 0, 0, 0, -1);
  }

  private static void oneOfBoth(Run x) {
    x.lines("abc").singer(0, 0, 1, 2).scene(0, "A=(a|bc)");
    x.due(1, "sing", 0, 0, 0, 0).sung(0).due(2, "sing", 0, 0, 0, 1).sung(1, 2).due(1, "sing", 0, 0, 0, 2).sung(0);
    x.row(0).due(1, "runs", 0, 0, 0, -1).row(1, 2).due(1, "runs", 0, 0, 0, -1);
    x.row(0, 1, 2).due(0, "runs", 0, 0, 0, -1).row(1).due(0, "runs", 0, 0, 0, -1);
    x.scene(1, "B=(a|a)").row(0).due(2, "runs", 1, 0, 0, -1);
  }

  private static void oneOrMore(Run x) {
    x.scene(-1002, "A=").scene(0, "A=a").scene(0, "A=aa");
    x.scene(-1003, "A=[]").scene(0, "A=[a]").scene(0, "A=[aa]");
    x.scene(-1003, "A={}").scene(0, "A={a}").scene(0, "A={aa}");
    x.scene(-1003, "A=(|a)").scene(-1005, "A=(a|)").scene(0, "A=(a|a)").scene(0, "A=(aa|aa)");
    x.scene(-1004, "A=a[]").scene(-1006, "A=(a|[])").scene(0, "A=(a|[b])").scene(-1004, "A=[[]]");
  }

  private static void mustBeTold(Run x) {
    x.scene(-2002, "B=A").due(0, "count", 2).scene(0, "A=a").scene(1, "B=A").due(2, "count", 2);
    x.scene(-2002, "C=H").scene(7, "H=a").scene(2, "C=H").scene(-2002, "D=D").scene(3, "D=a").scene(-2002, "D=D");
    x.scene(3, "D=AHBC").due(5, "count", 2);
  }

  private static void notToldAnew(Run x) {
    x.lines("ab").singer(0, 0, 1);
    x.scene(0, "A=a").scene(0, "A=b").scene(1, "B=A").scene(-3000, "A=a").due(1, "sing", 0, 0, 0, 0).sung(1);
    x.scene(2, "C=B").scene(-3000, "A=a").scene(-3000, "B=a").scene(2, "C=A").scene(1, "B=b").scene(-3000, "A=a");
    x.scene(2, "C=b").scene(0, "A=a").due(1, "sing", 0, 0, 0, 0).sung(0);
    // It may stand there several times, and in several.
    x.scene(1, "B=[A]A").scene(2, "C=A").scene(-3000, "A=b").scene(1, "B=a").scene(-3000, "A=b").scene(2, "C=a");
    x.scene(0, "A=b").due(3, "count", 2);
  }

  private static void firstByte(Run x) {
    x.scene(-1000, "=A=").scene(-1001, "AA=").scene(-1001, "A<a").scene(-1001, "A>a").scene(-1002, "A==");
    x.scene(-1002, "A=]]").scene(-1003, "A=a)i").scene(-1004, "A=[a}]").scene(-1006, "A=(a|b|c)");
    x.scene(-1059, "A=" + "a".repeat(57) + "i").scene(-1058, "A=" + "a".repeat(56) + "ii");
    x.scene(-1005, "A=[a]]").scene(-1004, "A=[a|b]").scene(-1004, "A=(a)").scene(-1002, "A=|");
    // A byte beyond 127 is no letter, whatever its lower bits are.
    x.scene(-1002, "A=" + (char) ('a' + 128)).scene(-1000, (char) ('A' + 128) + "=a");
  }

  private static void endsTooEarly(Run x) {
    x.scene(-1000, "").scene(-1001, "A").scene(-1002, "A=").scene(0, "A=a");
    x.scene(-1003, "A=[").scene(-1004, "A=[a").scene(0, "A=[a]");
    x.scene(-1003, "A={").scene(-1004, "A={a").scene(0, "A={a}");
    x.scene(-1003, "A=(").scene(-1004, "A=(a").scene(-1005, "A=(a|").scene(-1006, "A=(a|b").scene(0, "A=(a|b)");
    x.scene(-1060, "A=" + "a".repeat(57) + "[").scene(-1060, "A=" + "[".repeat(29) + "a" + "]".repeat(28));
    x.scene(-1059, "A=" + "[".repeat(29) + "a" + "]".repeat(27)).scene(0, "A=" + "[".repeat(28) + "a" + "]".repeat(28));
    x.scene(0, "A=[" + "[".repeat(27) + "aa" + "]".repeat(27) + "]");
  }

  private static void firstScene(Run x) {
    x.scene(0, "A=a").scene(-2002, "B=CD").scene(-2003, "B=ADC").scene(-2003, "B=ABC").scene(-2004, "B=AAB");
    x.scene(-2008, "B=[A](a|H)").scene(-2059, "B=" + "A".repeat(57) + "B").scene(1, "B=" + "A".repeat(58));
    // A byte that does not fit is told ahead of it, even if it stands behind.
    x.scene(-1004, "C=DD]").scene(-1003, "C=D|").scene(-1005, "C=CC[");
  }

  private static void standsInAnother(Run x) {
    x.scene(0, "A=a").scene(1, "B=aaA").scene(-3000, "A=a").scene(-3000, "A=[a]{b}(c|d)");
    x.scene(-2003, "A=aC").scene(-2003, "A=aA").scene(-1003, "A=a]").scene(-1002, "A=").scene(1, "B=aaA");
    x.scene(-2002, "A=A").scene(-3000, "A=B").due(2, "count", 2);
    // Whichever the other one is: the first of all, or the last.
    Run y = x.another().scene(1, "B=a").scene(0, "A=B").scene(-3000, "B=a").scene(0, "A=a").scene(7, "H=B");
    y.scene(-3000, "B=a").scene(7, "H=a").scene(1, "B=AH").scene(-3000, "A=a").scene(-3000, "H=a").due(3, "count", 2);
  }

  private static void hall(Run x) {
    x.due(1, "count", 7).due(1, "hall", 1).edges("hall", 0, 0, 3, BAD, 0).due(3, "count", 7);
  }

  private static void itemsInOrder(Run x) {
    x.lines("abcd").singer(0, 0, 1, 2, 3).scene(0, "A=cd").scene(1, "B=b[A](a|d){c}A");
    // The choices, too, are met from left to right: [ ] 1, ( ) 1, { } 1.
    x.due(7, "sing", 1, 0, 0, 7).sung(1, 2, 3, 3, 2, 2, 3).due(4, "sing", 1, 0, 0, 0).sung(1, 0, 2, 3);
    x.due(6, "sing", 1, 0, 0, 1).sung(1, 2, 3, 0, 2, 3).due(4, "sing", 1, 0, 0, 2).sung(1, 3, 2, 3);
    x.due(5, "sing", 1, 0, 0, 4).sung(1, 0, 2, 2, 3);
    x.row(1, 2, 3, 3, 2, 2, 3).due(1, "runs", 1, 0, 0, -1).row(1, 2, 3, 3, 2, 3, 2).due(0, "runs", 1, 0, 0, -1);
    x.row(1, 0, 2, 3).due(1, "runs", 1, 0, 0, -1).row(0, 1, 2, 3).due(0, "runs", 1, 0, 0, -1);
    // A stock is a set: what was learnt twice is there once.
    x.due(5, "learn", 0, 0, -1, 1).scene(2, "C=a").row(LOST).due(1, "runs", 2, 0, 9, -1);
  }

  private static void choices(Run x) {
    x.lines("aabbbc").singer(0, 0, 1, 2, 3, 4).due(1, "hall", 2);
    x.scene(0, "A=[a]b").due(1, "sing", 0, 0, 0, 0).sung(2).due(2, "sing", 0, 0, 0, 1).sung(0, 2);
    x.due(1, "sing", 0, 0, 0, 2).sung(3).due(2, "sing", 0, 0, 0, 3).sung(1, 2);
    for (int k = 0; k < 7; k++) x.scene(1, "B=b").due(1, "sing", 1, 0, 0, k).sung(2 + k % 3);
    x.scene(2, "C={a}b").due(1, "sing", 2, 0, 0, 3).sung(3).due(2, "sing", 2, 0, 0, 4).sung(1, 2);
    x.due(3, "sing", 2, 0, 0, 2 + 3 * (1 + 2 * (0 + 2 * 2))).sung(1, 0, 4);
    x.scene(3, "D=(a|b)a").due(2, "sing", 3, 0, 0, 0).sung(0, 0).due(2, "sing", 3, 0, 0, 1).sung(2, 0);
    x.due(2, "sing", 3, 0, 0, 2).sung(1, 0).due(2, "sing", 3, 0, 0, 1 + 2 * 2).sung(4, 0);
    x.due(2, "sing", 3, 0, 0, 1 + 2 * 3).sung(2, 1);
    // Only lines of the stock are counted: the one of slot c is in none.
    x.scene(4, "E=[c]").due(0, "sing", 4, 0, 0, 0).due(STATE, "sing", 4, 0, 0, 1);
    x.due(6, "learn", 0, 5, -1, 7).due(STATE, "sing", 4, 0, 6, 1).due(1, "sing", 4, 0, 7, 1).sung(5);
  }

  private static void remainders(Run x) {
    x.lines("aaa").singer(0, 0, 1, 2).scene(0, "A=" + "a".repeat(40));
    for (long number : new long[] {0, 1, 2, 3, 4, 8, 9, 1L << 31, 1L << 32, Long.MAX_VALUE - 1, Long.MAX_VALUE}) {
      x.due(40, "sing", 0, 0, 0, number);
      long left = number;
      for (int i = 0; i < 40; i += 1 + i / 10) {
        left = number;
        for (int k = 0; k < i; k++) left /= 3;
        x.due((int) (left % 3), "sung", i);
      }
    }
    // A choice of one way takes nothing from the number.
    x.scene(1, "B={a}a").due(1, "hall", 0).due(1, "sing", 1, 0, 0, 2).sung(2);
  }

  private static void noWays(Run x) {
    x.lines("ab").singer(0).scene(0, "A=a").scene(1, "B=[a]").scene(2, "C=c").scene(3, "D=(a|c)").scene(4, "E=ac");
    x.due(STATE, "sing", 0, 0, 0, 0).due(0, "sing", 1, 0, 0, 0).due(STATE, "sing", 1, 0, 0, 1);
    x.due(1, "learn", 0, 1, -1, 0).due(STATE, "sing", 0, 0, 0, 0).due(STATE, "sing", 2, 0, 0, 0);
    x.due(2, "learn", 0, 0, -1, 1).due(STATE, "sing", 0, 0, 0, 0).due(1, "sing", 0, 0, 1, 0);
    x.due(1, "sing", 3, 0, 1, 0).due(STATE, "sing", 3, 0, 1, 1).due(STATE, "sing", 4, 0, 1, 0);
    x.due(3, "forget", 0, 0, 2).due(1, "sing", 0, 0, 1, 0).due(STATE, "sing", 0, 0, 2, 0);
  }

  private static void fortyLinesSung(Run x) {
    x.lines("a").singer(0, 0);
    for (int many = 39; many <= 41; many++) {
      x.scene(0, "A=" + "a".repeat(many)).due(many <= 40 ? many : STATE, "sing", 0, 0, 0, 0);
    }
    x.scene(0, "A=aaaaaaaaaaaaa").scene(1, "B={A}").scene(2, "C=Ba").scene(3, "D=Baa").due(1, "hall", 3);
    x.due(39, "sing", 1, 0, 0, 3).due(40, "sing", 2, 0, 0, 3).due(0, "sung", 39).due(NONE, "sung", 40);
    x.due(STATE, "sing", 3, 0, 0, 3).due(28, "sing", 3, 0, 0, 2);
    // What is left out behind the 40th line does no harm.
    x.scene(4, "E=C[a]").due(40, "sing", 4, 0, 0, 3).due(STATE, "sing", 4, 0, 0, 7);
  }

  /** Scenes A, B, C whose singing by 0 goes through 10, 99 and 1988 items: brackets that are left out. */
  private static Run longScenes(Run x) {
    x.lines("a").singer(0, 0).scene(0, "A=" + "[h]".repeat(10)).scene(1, "B=AAAAAAAAA");
    return x.scene(2, "C=" + "B".repeat(19) + "A".repeat(8));
  }

  private static void items(Run x) {
    longScenes(x);
    for (int more = 10; more <= 12; more++) {
      x.scene(3, "D=C" + "a".repeat(more)).due(more <= 11 ? more : STATE, "sing", 3, 0, 0, 0);
      x.scene(3, "D=" + "a".repeat(more) + "C").due(more <= 11 ? more : STATE, "sing", 3, 0, 0, 0);
      x.scene(3, "D=C" + "[a]".repeat(more)).due(more <= 11 ? 0 : STATE, "sing", 3, 0, 0, 0);
    }
  }

  /** What stands ahead, sung by a number, is so many items; brackets that are left out make up the rest. */
  private static void itemsOfEachKind(Run x) {
    itemsOf(x.another(), "a", 0, 1, 1);
    itemsOf(x.another(), "[a]", 0, 1, 0);
    itemsOf(x.another(), "[a]", 1, 2, 1);
    itemsOf(x.another(), "[aaa]", 1, 4, 3);
    itemsOf(x.another(), "{a}", 0, 1, 0);
    itemsOf(x.another(), "{a}", 1, 2, 1);
    itemsOf(x.another(), "{a}", 3, 4, 3);
    itemsOf(x.another(), "{aa}", 3, 7, 6);
    itemsOf(x.another(), "(a|aaa)", 0, 2, 1);
    itemsOf(x.another(), "(a|aaa)", 1, 4, 3);
    itemsOf(x.another(), "E", 0, 2, 1);
    itemsOf(x.another(), "EE", 0, 4, 2);
    itemsOf(x.another(), "{E}", 2, 5, 2);
    itemsOf(x.another(), "{[a]}", 3, 4, 0);
    itemsOf(x.another(), "{[a]}", 2 + 4 * 3, 5, 2);
    itemsOf(x.another(), "{{a}}", 2 + 4 * (1 + 4 * 3), 7, 4);
    itemsOf(x.another(), "[[[a]]]", 7, 4, 1);
    itemsOf(x.another(), "((a|a)|(a|a))", 3, 3, 1);
  }

  private static void itemsOf(Run x, String text, int number, int items, int lines) {
    longScenes(x).scene(4, "E=a").due(1, "hall", 3);
    for (int all = 1999; all <= 2001; all++) {
      String rest = "[h]".repeat(all - 1989 - items);
      x.scene(3, "D=" + text + rest + "C").due(all <= 2000 ? lines : STATE, "sing", 3, 0, 0, number);
    }
  }

  private static void beyondThatNothingChanges(Run x) {
    longScenes(x).scene(3, "D=aaa").due(3, "sing", 3, 0, 0, 0).sung(0, 0, 0);
    x.scene(4, "E=C" + "a".repeat(12)).due(STATE, "sing", 4, 0, 0, 0).sung(0, 0, 0);
    x.scene(5, "F=" + "a".repeat(41)).due(STATE, "sing", 5, 0, 0, 0).sung(0, 0, 0);
    x.scene(6, "G=ah").due(STATE, "sing", 6, 0, 0, 0).sung(0, 0, 0);
  }

  /** Ways that make the same row are as many as there are choices that differ. */
  private static void waysToChoose(Run x) {
    x.lines("aab").singer(0, 0, 1, 2).due(1, "hall", 2).row(0);
    x.scene(0, "A=a").due(1, "runs", 0, 0, 0, -1).scene(0, "A=[a]").due(1, "runs", 0, 0, 0, -1);
    x.scene(0, "A=[a][a]").due(2, "runs", 0, 0, 0, -1).scene(0, "A=(a|[a])").due(2, "runs", 0, 0, 0, -1);
    x.scene(0, "A=(a|(a|a))").due(3, "runs", 0, 0, 0, -1).scene(0, "A=([b]|[b])a").due(2, "runs", 0, 0, 0, -1);
    x.scene(0, "A={a}{a}").due(2, "runs", 0, 0, 0, -1).scene(0, "A={[a]}").due(3, "runs", 0, 0, 0, -1);
    x.row(LOST).due(6, "runs", 0, 0, 0, -1).scene(0, "A=(a|b)").due(3, "runs", 0, 0, 0, -1);
    x.scene(0, "A=a[b]").scene(1, "B=A[A]").row(0).due(1, "runs", 1, 0, 0, -1).row(0, LOST, 2);
    x.due(2, "runs", 1, 0, 0, -1).row(0, LOST).due(3, "runs", 1, 0, 0, -1);
  }

  private static void rowsOfTwentyFour(Run x) {
    x.lines("ab").singer(0, 0, 1).due(1, "hall", 3);
    x.scene(0, "A={aaaaaaaa}").scene(1, "B={aaaaaaaa}[a]").scene(2, "C=" + "a".repeat(25))
        .scene(3, "D=a" + "[a]".repeat(15));
    for (int many = 23; many <= 24; many++) {
      x.row(0, many, false).due(many == 24 ? 1 : 0, "runs", 0, 0, 0, -1).due(many == 24 ? 1 : 0, "runs", 1, 0, 0, -1);
      x.due(0, "runs", 2, 0, 0, -1).due(0, "runs", 3, 0, 0, -1);
    }
    x.due(FULL, "put", 24, 0);
    // One line of 16 that can be sung: 1 way; of two to all: as many as places can be left out.
    int[] ways = {1, 15, 105};
    for (int many = 1; many <= 3; many++) x.row(0, many, false).due(ways[many - 1], "runs", 3, 0, 0, -1);
    x.row(0, 16, false).due(1, "runs", 3, 0, 0, -1).row(0, 17, false).due(0, "runs", 3, 0, 0, -1);
    throughAllScenes(x.another());
    // Ahead of 24 lines a scene that makes none.
    Run y = x.another().lines("a").singer(0, 0).due(1, "hall", 3).scene(1, "B=[[h]]").scene(0, "A=[aaaaaaaa]");
    y.scene(2, "C=B{A}").scene(3, "D={A}B").row(0, 24, false).due(2, "runs", 2, 0, 0, -1).due(2, "runs", 3, 0, 0, -1);
    deepTexts(x.another());
    // Neither 40 lines nor 2000 items are a limit here.
    longReading(x.another());
  }

  /** Each scene stands in the next one told; H, which is told first, makes four lines. */
  private static void throughAllScenes(Run x) {
    x.lines("ab").singer(0, 0, 1).due(1, "hall", 3).scene(7, "H=aaab").scene(0, "A={HH}");
    for (int s = 1; s < 7; s++) x.scene(s, (char) ('A' + s) + "=" + (char) ('@' + s));
    for (int i = 0; i < 24; i++) x.due(i + 1, "put", i, i % 4 == 3 ? 1 : 0);
    for (int s = 0; s < 7; s++) x.due(1, "runs", s, 0, 0, -1);
    x.due(0, "runs", 7, 0, 0, -1);
    for (int i = 0; i < 24; i++) x.due(i + 1, "put", i, i == 23 ? LOST : i % 4 == 3 ? 1 : 0);
    x.due(1, "runs", 6, 0, 0, -1).due(0, "record", 0, 6, 0).due(1, "filled", 0, -1, 23);
    for (int i = 0; i < 24; i++) x.due(i + 1, "put", i, i == 23 ? 0 : i % 4 == 3 ? 1 : 0);
    x.due(0, "runs", 6, 0, 0, -1);
  }

  /** As many brackets as can stand open at once on a tape. */
  private static void deepTexts(Run x) {
    x.lines("ab").singer(0, 0, 1).row(0);
    x.scene(0, "A=" + around("a", 28)).due(1, "runs", 0, 0, 0, -1);
    x.scene(1, "B=" + "{".repeat(28) + "a" + "}".repeat(28)).due(1, "runs", 1, 0, 0, -1);
    x.scene(2, "C=" + "(a|".repeat(14) + "a" + ")".repeat(14)).due(15, "runs", 2, 0, 0, -1);
    x.scene(2, "C=" + "(b|".repeat(14) + "a" + ")".repeat(14)).due(1, "runs", 2, 0, 0, -1);
    x.scene(3, "D=" + "(".repeat(14) + "a" + "|b)".repeat(14)).due(1, "runs", 3, 0, 0, -1);
    x.scene(4, "E=" + "(b|".repeat(13) + "{{a}}" + ")".repeat(13)).due(1, "runs", 4, 0, 0, -1);
    x.due(1, "hall", 3).due(MANY, "runs", 1, 0, 0, -1).due(6, "runs", 4, 0, 0, -1);
    x.row(0, 0).due(0, "runs", 0, 0, 0, -1).due(0, "runs", 2, 0, 0, -1).due(MANY, "runs", 1, 0, 0, -1);
  }

  private static void longReading(Run x) {
    x.lines("a").singer(0, 0).due(1, "hall", 1);
    x.scene(0, "A=" + "{h}".repeat(19)).scene(1, "B=" + "A".repeat(58)).scene(2, "C=a" + "B".repeat(57));
    x.row(0).due(1, "runs", 2, 0, 0, -1).due(STATE, "sing", 2, 0, 0, 0);
  }

  private static void lostOnes(Run x) {
    x.lines("aaab").singer(0).scene(0, "A=a").scene(1, "B=(a|b)").scene(2, "C=aa").row(LOST);
    x.due(0, "runs", 0, 0, 9, -1).due(1, "learn", 0, 0, -1, 0).due(1, "runs", 0, 0, 9, -1);
    x.due(2, "learn", 0, 1, -1, 0).due(2, "runs", 0, 0, 9, -1).due(2, "runs", 1, 0, 9, -1);
    x.due(3, "learn", 0, 3, -1, 0).due(2, "runs", 0, 0, 9, -1).due(3, "runs", 1, 0, 9, -1);
    x.due(0, "runs", 2, 0, 9, -1).row(LOST, LOST).due(4, "runs", 2, 0, 9, -1).row(LOST, 0).due(2, "runs", 2, 0, 9, -1);
    x.row(0, LOST).due(2, "runs", 2, 0, 9, -1).row(2, LOST).due(0, "runs", 2, 0, 9, -1);
    x.row(LOST, 3).due(0, "runs", 2, 0, 9, -1).row(LOST, LOST, LOST).due(0, "runs", 2, 0, 9, -1);
  }

  /** B and C are left out in 2079 and 481 ways: 999999 together, and one more for each bracket around. */
  private static void aMillion(Run x) {
    x.lines("a").singer(0, 0).scene(0, "A=[[[h]]]");
    x.scene(1, "B=AAA" + around("h", 7) + around("h", 11));
    x.scene(2, "C=" + around("h", 13) + "[" + around("h", 6) + around("h", 6) + "]");
    x.row(0).scene(3, "D=aA").due(3, "runs", 3, 0, 0, -1).scene(3, "D=aB").due(2079, "runs", 3, 0, 0, -1);
    x.scene(3, "D=Ca").due(481, "runs", 3, 0, 0, -1);
    x.scene(3, "D=aBC").due(MANY - 1, "runs", 3, 0, 0, -1).scene(3, "D=BaC").due(MANY - 1, "runs", 3, 0, 0, -1);
    x.scene(3, "D=a[BC]").due(MANY, "runs", 3, 0, 0, -1).scene(3, "D=a[[BC]]").due(MANY, "runs", 3, 0, 0, -1);
    x.scene(3, "D=(aBC|a)").due(MANY, "runs", 3, 0, 0, -1).scene(3, "D=(aBC|aBC)").due(MANY, "runs", 3, 0, 0, -1);
    x.scene(3, "D=aBCBC").due(MANY, "runs", 3, 0, 0, -1).scene(3, "D=aBCBCBCBC").due(MANY, "runs", 3, 0, 0, -1);
    x.scene(3, "D=aBCBCa").due(0, "runs", 3, 0, 0, -1).scene(3, "D=hBCBC").due(0, "runs", 3, 0, 0, -1);
    x.scene(3, "D=(aBCBC|h)").due(MANY, "runs", 3, 0, 0, -1).scene(3, "D=(hBCBC|a)").due(1, "runs", 3, 0, 0, -1);
    byLostOnes(x.another());
  }

  private static void byLostOnes(Run x) {
    x.lines("aaaaaaaaaabbbbbbbbbb").singer(0, 0, 1, 2, 3, 4, 5, 6, 7, 8, 9, 10, 11, 12, 13, 14, 15, 16, 17, 18);
    x.scene(0, "A=aaaaaa").scene(1, "B=aaaaab").row(LOST, LOST, LOST, LOST, LOST, LOST);
    x.due(MANY, "runs", 0, 0, 0, -1).due(900000, "runs", 1, 0, 0, -1).due(20, "learn", 0, 19, -1, 1);
    x.due(900000, "runs", 1, 0, 0, -1).due(MANY, "runs", 1, 0, 1, -1).due(531441, "runs", 0, 0, 0, 9);
  }

  private static String around(String text, int times) {
    return "[".repeat(times) + text + "]".repeat(times);
  }

  private static void waysWithoutLines(Run x) {
    x.lines("a").singer(0, 0).row(0);
    for (int hall = 0; hall <= 3; hall++) {
      x.taken("hall", hall);
      x.scene(0, "A=a{[h]}").due(hall + 1, "runs", 0, 0, 0, -1);
      x.scene(0, "A=a{h}").due(1, "runs", 0, 0, 0, -1).scene(0, "A={[h]}a{[h]}");
      x.due((hall + 1) * (hall + 1), "runs", 0, 0, 0, -1);
      // Around the line: of so many times one makes it, and all others nothing.
      x.scene(0, "A={[a]}").due(new int[] {0, 1, 3, 6}[hall], "runs", 0, 0, 0, -1);
    }
    x.scene(0, "A=a[h]").due(1, "runs", 0, 0, 0, -1).scene(0, "A=a[[h]]").due(2, "runs", 0, 0, 0, -1);
    x.scene(0, "A=a([h]|[h])").due(2, "runs", 0, 0, 0, -1).scene(0, "A=a(h|[h])").due(1, "runs", 0, 0, 0, -1);
    x.scene(0, "A=a(h|h)").due(0, "runs", 0, 0, 0, -1);
  }

  private static void lowestBytes(Run x) {
    x.due(1, "feed", 0x4242424242424241L, 1).due(3, "feed", 0x42424242423d61L, 2).due(0, "scene");
    x.due(8, "feed", 0x413d616161616161L, 8).due(0, "scene").due(7, "feed", 0x42413d6161616161L, 7).due(0, "scene");
    x.due(8, "feed", -1L, 8).due(-1000, "scene").due(1, "feed", -1L, 1).due(-1000, "scene");
    x.due(3, "feed", 0xff413d61L, 3).due(0, "scene").due(4, "feed", 0xff413d61L, 4).due(-1000, "scene");
    x.due(2, "feed", 0x413dL, 2).due(3, "feed", 0xffffffffffffff61L, 1).due(0, "scene");
  }

  private static void bytesAtOnce(Run x) {
    x.edges("feed", 1, 1, 8, BAD, 0, 1).due(18, "count", 6);
    x.due(BAD, "feed", 0, Integer.MIN_VALUE).due(BAD, "feed", 0, Integer.MAX_VALUE).due(BAD, "feed", 0, -8);
    for (int k = 0; k < 5; k++) x.due(26 + 8 * k, "feed", 0, 8);
    x.due(59, "feed", 0, 1).due(BAD, "feed", 0, 9).due(BAD, "feed", 0, 0).due(FULL, "feed", 0, 2).due(60, "feed", 0, 1);
    x.due(FULL, "feed", 0, 1).due(BAD, "feed", 0, 0).due(BAD, "feed", 0, 9).due(60, "count", 6);
  }

  private static void emptyThen(Run x) {
    x.feed("A=a").due(3, "count", 6).due(0, "scene").due(0, "count", 6).due(-1000, "scene");
    x.feed("A=i").due(-1002, "scene").due(0, "count", 6).feed("A=A").due(-2002, "scene").due(0, "count", 6);
    x.scene(1, "B=A").feed("A=a").due(-3000, "scene").due(0, "count", 6);
    x.feed("C=" + "a".repeat(58)).due(2, "scene").due(0, "count", 6).due(1, "feed", 'a', 1);
    // A fault of any kind leaves all scenes as they are.
    Run y = x.another().lines("ab").singer(0, 0, 1).scene(0, "A=[a]{b}").scene(1, "B=A");
    for (String fault : new String[] {"A=(b|a", "A=b]", "A=(b|b)C", "A={a}[b]A", "A=b", "B={a}[b]]", "C=bD"}) {
      y.feed(fault).holds(fault + " is a fault", y.ask("scene") <= -1000);
      y.due(2, "count", 2).due(2, "sing", 0, 0, 0, 3).sung(0, 1).due(2, "sing", 1, 0, 0, 3).sung(0, 1);
    }
  }

  private static void hallWas(Run x) {
    x.due(1, "hall", 0).due(0, "hall", 3).due(BAD, "hall", 4).due(BAD, "hall", -1).due(3, "hall", 2).due(2, "hall", 1);
    x.due(BAD, "hall", Integer.MAX_VALUE).due(BAD, "hall", Integer.MIN_VALUE).due(1, "count", 7);
  }

  private static void sungByANumber(Run x) {
    x.lines("ab").singer(500).scene(0, "A=a").scene(1, "B=[b]").due(1, "learn", 0, 0, -1, 10);
    x.due(STATE, "sing", 0, 0, 9, 0).due(1, "sing", 0, 0, 10, 0).due(1, "sing", 0, 0, 11, 0);
    x.due(2, "forget", 0, 0, 11).due(1, "sing", 0, 0, 10, 0).due(STATE, "sing", 0, 0, 11, 0);
    x.due(BAD, "sing", 1, 0, 0, -1).due(0, "sing", 1, 0, 0, 0).due(STATE, "sing", 1, 0, 0, 1);
    x.due(STATE, "sing", 1, 0, 0, Long.MAX_VALUE).due(0, "sing", 1, 0, 0, Long.MAX_VALUE - 1);
    x.due(BAD, "sing", 1, 0, 0, Long.MIN_VALUE).edges("sing", 2, 0, 999, BAD, 1, 0, 0, 0);
  }

  private static void singRefused(Run x) {
    x.lines("a").due(NONE, "sing", 0, 0, 0, 0).scene(0, "A=a").due(NONE, "sing", 0, 0, 0, 0).singer(0, 0);
    x.due(NONE, "sing", -1, 0, 0, 0).due(1, "sing", 0, 0, 0, 0).due(NONE, "sing", 1, 0, 0, 0);
    x.due(NONE, "sing", 7, 0, 0, 0).due(NONE, "sing", 8, 0, 0, 0).scene(7, "H=a").due(1, "sing", 7, 0, 0, 0);
    x.due(NONE, "sing", 8, 0, 0, 0).due(NONE, "sing", 6, 0, 0, 0);
    x.due(NONE, "sing", 0, -1, 0, 0).due(NONE, "sing", 0, 1, 0, 0).singer(0).due(STATE, "sing", 0, 1, 0, 0);
    x.due(NONE, "sing", 0, 2, 0, 0).due(BAD, "sing", 0, 1, -1, 0).due(BAD, "sing", 0, 1, 1000, 0);
    x.due(BAD, "sing", 0, 1, 0, -1).due(NONE, "sing", 1, 1, -1, -1).due(NONE, "sing", 0, 2, -1, -1);
  }

  private static void sungLatest(Run x) {
    x.lines("ab").singer(0, 0, 1).scene(0, "A=" + "a".repeat(39) + "b").scene(1, "B=b").scene(2, "C=[h]");
    x.due(NONE, "sung", -1).due(NONE, "sung", 0).due(40, "sing", 0, 0, 0, 0);
    x.due(NONE, "sung", -1).due(0, "sung", 0).due(0, "sung", 1).due(0, "sung", 38).due(1, "sung", 39)
        .due(NONE, "sung", 40);
    x.due(NONE, "sing", 3, 0, 0, 0).due(BAD, "sing", 0, 0, 0, -1).due(STATE, "sing", 2, 0, 0, 1);
    x.due(1, "sung", 39).due(1, "sing", 1, 0, 0, 0).due(1, "sung", 0).due(NONE, "sung", 1).due(NONE, "sung", 39);
    x.due(0, "sing", 2, 0, 0, 0).due(NONE, "sung", 0).due(NONE, "sung", -1);
    x.due(NONE, "sung", Integer.MAX_VALUE).due(NONE, "sung", Integer.MIN_VALUE);
  }
}
