/** Counts answers that are not as due, and prints them. */
final class Due {
  private final String about;
  private int asked = 0;
  private int wrong = 0;

  Due(String about) {
    this.about = about;
  }

  void is(String call, long got, long want) {
    asked++;
    if (got != want) {
      wrong++;
      System.out.println(about + ": " + call + " answered " + got + ", due is " + want);
    }
  }

  int wrongs() {
    return wrong;
  }

  /** Ends the program with exit code 1 if an answer was not as due. */
  void end() {
    System.out.println(about + ": " + asked + " answers, " + wrong + " not as due");
    if (wrong != 0 || asked == 0) {
      System.exit(1);
    }
  }
}
