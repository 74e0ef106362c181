/** Counts answers that are as due and prints those that are not. */
final class Check {
  private final String name;
  private String sentence = "";
  private int sentences = 0;
  private int passed = 0;
  private int failed = 0;
  private int answersBefore = 0;

  Check(String name) {
    this.name = name;
  }

  /** What follows is the test of this sentence of the document, up to the next. */
  void sentence(String words) {
    closeSentence();
    sentence = "[" + words + "] ";
    sentences++;
    answersBefore = passed + failed;
  }

  /** A sentence without an answer that was looked at would be a test that cannot fail. */
  private void closeSentence() {
    if (!sentence.isEmpty() && passed + failed == answersBefore) {
      due("looked at", 0, 1);
    }
  }

  void due(String call, long got, long want) {
    if (got == want) {
      passed++;
      return;
    }
    failed++;
    if (failed <= 50) {
      System.out.println(name + ": " + sentence + call + " answered " + got + ", due is " + want);
    }
  }

  void holds(String what, boolean truth) {
    due(what, truth ? 1 : 0, 1);
  }

  int failures() {
    return failed;
  }

  /** Prints how it went, and ends the program with 1 if an answer was wrong. */
  void end() {
    closeSentence();
    String of = sentences > 0 ? " of " + sentences + " sentences" : "";
    System.out.println(name + ": " + passed + " answers" + of + " as due, " + failed + " not");
    if (failed != 0) {
      System.exit(1);
    }
  }
}
