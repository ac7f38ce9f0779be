/** Counts what was asked and what was wrong, for one test class. */
final class Check {
  private final String title;
  private String subject = "";
  private int asked = 0;
  private int wrong = 0;

  Check(String title) {
    this.title = title;
  }

  /** What the checks from here on are about. */
  void about(String words) {
    subject = " (" + words + ")";
  }

  void due(String call, long got, long want) {
    asked++;
    if (got != want) {
      wrong++;
      if (wrong <= 50) System.out.println(title + subject + ": " + call + " answered " + got + ", due is " + want);
    }
  }

  void holds(String what, boolean holds) {
    due(what, holds ? 1 : 0, 1);
  }

  void end() {
    System.out.println(title + ": " + asked + " asked, " + wrong + " wrong");
    if (wrong != 0) System.exit(1);
  }
}
