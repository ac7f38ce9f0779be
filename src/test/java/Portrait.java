import java.util.ArrayList;
import java.util.List;

/**
 * All that can be seen of an object, as its answers to a row of calls. First come those that are not refused,
 * then those that change the object, then those that may be refused: so that, if a refusal did change
 * something, this would not change it in both of two portraits that are held against one another.
 */
final class Portrait {
  private final Run run;
  private final List<String> answers = new ArrayList<>();
  private final int halves, lines, singers, recordings;

  private Portrait(Run run) {
    this.run = run;
    halves = run.ask("count", 0);
    lines = run.ask("count", 1);
    singers = run.ask("count", 3);
    recordings = run.ask("count", 5);
  }

  static List<String> of(Run run) {
    Portrait p = new Portrait(run);
    p.seen();
    p.changed();
    p.perhapsRefused();
    return p.answers;
  }

  /** Only what is seen without a change. */
  static List<String> looks(Run run) {
    Portrait p = new Portrait(run);
    p.seen();
    return p.answers;
  }

  private int ask(String call, long... args) {
    int answer = run.ask(call, args);
    answers.add(Run.text(call, args) + " = " + answer);
    return answer;
  }

  private void seen() {
    for (int what = 0; what < 9; what++) ask("count", what);
    for (int line = 0; line < Math.min(lines, 7); line++) {
      for (int what : new int[] {0, 1, 2, 3, 4, 7}) ask("told", line, what);
      ask("whose", line, 30, -1);
      if (singers > 1) ask("has", 1, line, 30, -1);
    }
    int broken = ask("broken", -1);
    for (int i = 0; i < broken && i < 2; i++) ask("broken", i);
    for (int s = 0; s < Math.min(singers, 4); s++) stocksOf(s);
    ask("lineage", 30, -1);
    ask("core", 30, -1, -1);
    if (singers > 1) ask("loan", 0, 1, 30, -1);
    for (int r = 0; r < Math.min(recordings, 3); r++) {
      for (int what = 0; what < 4; what++) ask("heard", r, -1, what);
      ask("heard", r, Math.min(2, run.ask("count", 4)), 0);
    }
  }

  private void stocksOf(int singer) {
    ask("stock", singer, 20, Math.min(6, run.ask("count", 4)));
    ask("stock", singer, 30, -1);
    ask("stock", singer, 25, -1);
    ask("master", singer, 30, -1);
  }

  /** What only a change tells: halves and names that no line has, what was, the tape's bytes. */
  private void changed() {
    int line = lines;
    for (int n = 0; n < 10 && halves > 2 && line < 40; n++, line++) {
      ask("line", 2, 2, 0, n, 0);
      ask("told", line, 7);
    }
    for (int h = Math.max(0, halves - 4); h < halves && line < 40; h++, line++) {
      ask("line", h, h, 0, 9, 0);
      ask("told", line, 7);
    }
    for (int n = 0; n < 10; n++) ask("name", n, 1, 0);
    for (int what = 0; what < 3; what++) ask("metre", what, 1);
    ask("hall", 2);
    for (int s = 0; s < Math.min(singers, 4); s++) ask("village", s, 0);
    ask("scene");
    run.feed("A=a");
    ask("scene");
  }

  private void perhapsRefused() {
    for (int i = 0; i < 3; i++) ask("sung", i);
    for (int s = 0; s < Math.min(singers, 4); s++) ask("forged", s, 30, -1);
    for (int scene = 0; scene < 4; scene++) ask("runs", scene, 0, 30, -1);
    for (int r = 0; r < 3; r++) {
      for (int place = 0; place < 4; place++) ask("filled", r, -1, place);
    }
    ask("heard", recordings, -1, 0);
    ask("put", 4, 0);
    ask("put", 24, 0);
    ask("put", 1, 0);
    ask("put", 0, 0);
    ask("sung", 3);
    for (int scene = 0; scene < 4; scene++) ask("sing", scene, 0, 30, 1);
    ask("broken", 2);
    ask("told", lines, 0);
    ask("half", 1, 0, -1);
    ask("singer", 15);
    ask("learn", 0, 0, -1, 3);
    ask("record", 0, 1, 5);
    ask("swap", 0, 9);
    ask("broken", -1);
    // What stands in which scene.
    for (char s : new char[] {'B', 'A'}) {
      run.feed(s + "=a");
      ask("scene");
    }
  }
}
