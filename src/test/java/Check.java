/** Counts answers that are not as due, and prints each behind the words of the document at stake. */
final class Check {
  interface Call {
    void run();
  }

  private String words = "";
  private int wrong = 0;
  private int asked = 0;

  /** All that follows is about these words of the document. */
  void about(String promise, String sentence) {
    words = "[" + promise + ": \"" + sentence + "\"] ";
  }

  void same(String what, long got, long want) {
    asked++;
    if (got != want) {
      wrong++;
      System.out.println(words + what + " answered " + got + ", due is " + want);
    }
  }

  void yes(String what, boolean got) {
    same(what, got ? 1 : 0, 1);
  }

  void no(String what, boolean got) {
    same(what, got ? 1 : 0, 0);
  }

  /** An exception of the machine's own making has a text like "Index 9 out of bounds". */
  void outOfBounds(String what, Call call) {
    RuntimeException got = thrownBy(call);
    boolean fits = got != null && got.getClass() == ArrayIndexOutOfBoundsException.class
        && got.getMessage() != null && !got.getMessage().startsWith("Index ");
    tell(what, "ArrayIndexOutOfBoundsException", got, fits);
  }

  void illegal(String what, Call call) {
    RuntimeException got = thrownBy(call);
    tell(what, "IllegalArgumentException", got,
        got != null && got.getClass() == IllegalArgumentException.class);
  }

  /** Each of the calls that can tell whether there is a table does so. */
  void table(String what, CosetTables x, boolean there) {
    yes(what + ": value(0) tells of a table", x.value(0) == -2 != there);
    yes(what + ": count(0) tells of a table", x.count(0) == -1 != there);
    same(what + ": file(0)", x.file(0), there ? 67 : -1);
  }

  static RuntimeException thrownBy(Call call) {
    try {
      call.run();
      return null;
    } catch (RuntimeException e) {
      return e;
    }
  }

  private void tell(String what, String want, RuntimeException got, boolean fits) {
    asked++;
    if (!fits) {
      wrong++;
      System.out.println(words + what + " threw " + got + ", due is " + want);
    }
  }

  boolean isWrong() {
    return wrong > 0;
  }

  void end() {
    System.out.println(asked + " answers looked at, " + wrong + " not as due");
    if (wrong > 0) {
      System.exit(1);
    }
  }
}
