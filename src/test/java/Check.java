/** Collects the calls of one test whose answer is not the one that is due. */
final class Check {
  private final String test;
  private int asked;
  private int wrong;

  Check(String test) { this.test = test; }

  void due(String call, long got, long want) {
    asked++;
    if (got != want) {
      wrong++;
      System.out.println(test + ": " + call + " answered " + got + ", due is " + want);
    }
  }

  void due(String call, boolean got, boolean want) { due(call, got ? 1L : 0L, want ? 1L : 0L); }

  void due(String call, String got, String want) {
    asked++;
    if (!got.equals(want)) {
      wrong++;
      System.out.println(test + ": " + call + " was " + got + ", due is " + want);
    }
  }

  void end() {
    System.out.println(test + ": " + asked + " answers, " + wrong + " not as due");
    if (wrong != 0 || asked == 0) System.exit(1);
  }
}
