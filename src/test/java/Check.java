/** Counts answers that are as due and prints those that are not. */
final class Check {
  private final String name;
  private int passed = 0;
  private int failed = 0;

  Check(String name) {
    this.name = name;
  }

  void due(String call, long got, long want) {
    if (got == want) {
      passed++;
      return;
    }
    failed++;
    if (failed <= 50) {
      System.out.println(name + ": " + call + " answered " + got + ", due is " + want);
    }
  }

  void holds(String what, boolean truth) {
    due(what, truth ? 1 : 0, 1);
  }

  int failures() {
    return failed;
  }

  /** Prints how it went, and ends the program with 1 if an answer was wrong. */
  void end() {
    System.out.println(name + ": " + passed + " answers as due, " + failed + " not");
    if (failed != 0) {
      System.exit(1);
    }
  }
}
