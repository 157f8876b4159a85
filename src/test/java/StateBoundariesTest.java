/** Promises 6 to 12: each sentence that names a boundary case, by a test of its own. */
public final class StateBoundariesTest {
  private static final Check CHECK = new Check();
  private static final Twins UNTOUCHED = new Twins(CHECK, "untouched", Puzzles::untouched);
  private static final Twins ORDINARY = new Twins(CHECK, "ordinary", Puzzles::ordinary);
  private static final Twins WITH_TABLE =
      new Twins(CHECK, "with a table", Puzzles::ordinaryWithTable);
  private static final Twins FULL = new Twins(CHECK, "full", Puzzles::full);

  private static CosetTables withChosen(int places, int twists, int... pieces) {
    CosetTables x = new CosetTables(places, twists);
    for (int p : pieces) {
      x.choose(p, true);
    }
    return x;
  }

  // Promise 6: choose

  private static void theFirstAndTheLastPieceAreChosen() {
    CHECK.about("6", "A piece is chosen, or not: true");
    for (int places = 2; places <= 8; places++) {
      CosetTables x = new CosetTables(places, 1);
      int last = places - 1;
      CHECK.yes("choose(0, true)", x.choose(0, true));
      CHECK.yes("choose(" + last + ", true)", x.choose(last, true));
      CHECK.same("place(0)", x.place(0), 0);
      CHECK.same("place(" + last + ")", x.place(last), last);
      CHECK.yes("choose(0, false)", x.choose(0, false));
      CHECK.same("place(0) when off", x.place(0), -1);
      CHECK.yes("choose(" + last + ", false)", x.choose(last, false));
      CHECK.same("size() with all off", x.size(), 1);
      CHECK.same("number() with all off", x.number(), 0);
    }
  }

  private static void whatIsSoAlreadyIsNotChosen() {
    CHECK.about("6", "false when it is so already");
    UNTOUCHED.refuses("choose(0, false)", x -> Twins.bit(x.choose(0, false)));
    UNTOUCHED.refuses("choose(2, false)", x -> Twins.bit(x.choose(2, false)));
    ORDINARY.refuses("choose(1, true)", x -> Twins.bit(x.choose(1, true)));
    WITH_TABLE.refuses("choose(1, true)", x -> Twins.bit(x.choose(1, true)));
    WITH_TABLE.refuses("choose(0, false)", x -> Twins.bit(x.choose(0, false)));
    WITH_TABLE.refuses("choose(3, false)", x -> Twins.bit(x.choose(3, false)));
    FULL.refuses("choose(3, true), of four", x -> Twins.bit(x.choose(3, true)));
    FULL.refuses("choose(4, false), beside four", x -> Twins.bit(x.choose(4, false)));
  }

  private static void aFifthIsNotChosen() {
    CHECK.about("6", "or 4 are");
    FULL.refuses("choose(4, true)", x -> Twins.bit(x.choose(4, true)));
    for (int places = 5; places <= 8; places++) {
      CosetTables x = withChosen(places, 3, places - 1, 0, 2);
      CHECK.yes("the fourth of " + places, x.choose(1, true));
      int size = x.size();
      CHECK.no("a fifth of " + places, x.choose(3, true));
      CHECK.same("size() after that", x.size(), size);
      CHECK.same("place(3) after that", x.place(3), -1);
    }
  }

  private static void allOfFourPlacesAreChosen() {
    CHECK.about("Terms", "Some pieces are CHOSEN (4 at most)");
    for (int places = 2; places <= 4; places++) {
      CosetTables x = new CosetTables(places, 2);
      for (int p = 0; p < places; p++) {
        CHECK.yes("choose(" + p + ", true) of " + places, x.choose(p, true));
      }
      for (int p = 0; p < places; p++) {
        CHECK.same("place(" + p + ") of " + places, x.place(p), p);
      }
    }
  }

  private static void oneOfFourIsTakenOff() {
    CHECK.about("6", "A piece is chosen, or not: true");
    CosetTables x = Puzzles.full();
    CHECK.yes("choose(2, false) of four", x.choose(2, false));
    CHECK.same("place(2)", x.place(2), -1);
    CHECK.same("size() with three", x.size(), 60);
    CHECK.yes("choose(4, true) as the fourth", x.choose(4, true));
    CHECK.no("choose(2, true) as a fifth", x.choose(2, true));
  }

  private static void aChoiceTakesTheTable() {
    CHECK.about("6", "The table is gone then");
    CosetTables x = Puzzles.ordinaryWithTable();
    x.choose(1, true);
    CHECK.table("when it is so already", x, true);
    x.choose(3, true);
    CHECK.table("after choose(3, true)", x, false);
    x.build(1);
    x.choose(3, false);
    CHECK.table("after choose(3, false)", x, false);
    x.build(1);
    x.choose(1, false);
    CHECK.table("after choose(1, false), the last", x, false);
    x.build(0);
    x.choose(0, true);
    CHECK.table("after choose(0, true), the first", x, false);
    CHECK.same("the moves stay", x.order(0), 9);
    CHECK.outOfBounds("no more symmetries", () -> x.good(1));
  }

  private static void afterAChoiceTheStateIsTheGoal() {
    CHECK.about("6", "THE STATE is THE GOAL");
    CosetTables x = withChosen(5, 3, 1);
    x.set(14);
    x.choose(4, true);
    isTheGoal("after one on", x, 1, 4);
    x.set(0);
    x.choose(0, true);
    isTheGoal("after another on", x, 0, 1, 4);
    x.set(x.size() - 1);
    x.choose(1, false);
    isTheGoal("after one off", x, 0, 4);
    x.move();
    x.exchange(0, 0, 4);
    x.apply(0);
    x.choose(0, false);
    isTheGoal("after a move and another off", x, 4);
    x.set(2);
    x.choose(4, false);
    CHECK.same("number() after the last off", x.number(), 0);
  }

  private static void isTheGoal(String when, CosetTables x, int... pieces) {
    for (int p : pieces) {
      CHECK.same("place(" + p + ") " + when, x.place(p), p);
      CHECK.same("twist(" + p + ") " + when, x.twist(p), 0);
    }
    x.build(0);
    CHECK.same("the value of THE STATE " + when, x.value(x.number()), 0);
  }

  private static void noChoiceOfAPieceThatIsNotThere() {
    CHECK.about("6", "ArrayIndexOutOfBoundsException: there is no such piece");
    for (int p : Puzzles.outside(3)) {
      UNTOUCHED.outOfBounds("choose(" + p + ", true)", x -> x.choose(p, true));
    }
    for (int p : Puzzles.outside(4)) {
      WITH_TABLE.outOfBounds("choose(" + p + ", true)", x -> x.choose(p, true));
      WITH_TABLE.outOfBounds("choose(" + p + ", false)", x -> x.choose(p, false));
    }
    for (int p : Puzzles.outside(5)) {
      FULL.outOfBounds("choose(" + p + ", true), with four", x -> x.choose(p, true));
      FULL.outOfBounds("choose(" + p + ", false), with four", x -> x.choose(p, false));
    }
    CosetTables eight = new CosetTables(8, 1);
    CHECK.outOfBounds("choose(8, true)", () -> eight.choose(8, true));
    CHECK.yes("choose(7, true)", eight.choose(7, true));
  }

  // Promise 7: size

  private static void withNoneChosenThereIsOneState() {
    CHECK.about("Terms", "With none chosen there is one state, 0");
    for (int places = 2; places <= 8; places++) {
      for (int twists = 1; twists <= 3; twists++) {
        CosetTables x = new CosetTables(places, twists);
        CHECK.same("size()", x.size(), 1);
        CHECK.same("number()", x.number(), 0);
        CHECK.same("least(0)", x.least(0), 0);
        x.set(0);
        CHECK.outOfBounds("set(1)", () -> x.set(1));
        CHECK.same("build(1)", x.build(1), 0);
        CHECK.same("value(0)", x.value(0), 0);
      }
    }
  }

  private static void fromOneToFourChosen() {
    CHECK.about("7", "How many states there are");
    for (int places = 2; places <= 8; places++) {
      for (int twists = 1; twists <= 3; twists++) {
        CosetTables x = new CosetTables(places, twists);
        long due = 1;
        for (int p = 0; p < Math.min(4, places); p++) {
          x.choose(places - 1 - p, true);
          due *= (long) (places - p) * twists;
          CHECK.same("size() of " + places + ", " + twists + " with " + (p + 1), x.size(), due);
        }
        CHECK.same("size() with as many as can be", x.size(), due);
      }
    }
    CHECK.same("the least size() with all", withChosen(2, 1, 0, 1).size(), 2);
    CHECK.same("the greatest size()", withChosen(8, 3, 0, 1, 2, 3).size(), 136080);
  }

  // Promise 8: set

  private static void theFirstAndTheLastNumberAreSet() {
    CHECK.about("8", "THE STATE (..) becomes that of a number");
    CosetTables x = withChosen(8, 3, 7, 5, 2, 0);
    x.set(0);
    CHECK.same("number() of the first", x.number(), 0);
    x.set(136079);
    CHECK.same("number() of the last", x.number(), 136079);
    CosetTables small = withChosen(2, 1, 0);
    small.set(1);
    CHECK.same("place(0) of the last of two", small.place(0), 1);
    small.set(0);
    CHECK.same("place(0) of the first of two", small.place(0), 0);
  }

  private static void atFirstTheStateIsTheGoal() {
    CHECK.about("8", "THE STATE (at first THE GOAL)");
    for (int p = 0; p < 8; p++) {
      CosetTables x = withChosen(8, 3, p);
      CHECK.same("number() with " + p + " chosen", x.number(), 3L * p);
    }
    isTheGoal("of four", withChosen(8, 2, 7, 6, 1, 3), 1, 3, 6, 7);
  }

  private static void aNumberThatIsNotThereIsNotSet() {
    CHECK.about("8", "ArrayIndexOutOfBoundsException: there is none");
    for (int n : Puzzles.outside(1)) {
      UNTOUCHED.outOfBounds("set(" + n + ")", x -> x.set(n));
    }
    for (int n : Puzzles.outside(12)) {
      ORDINARY.outOfBounds("set(" + n + ")", x -> x.set(n));
      WITH_TABLE.outOfBounds("set(" + n + ")", x -> x.set(n));
    }
    for (int n : Puzzles.outside(120)) {
      FULL.outOfBounds("set(" + n + ")", x -> x.set(n));
    }
    CosetTables great = withChosen(8, 3, 0, 1, 2, 3);
    CHECK.outOfBounds("set(136080)", () -> great.set(136080));
    CosetTables fewer = withChosen(4, 3, 0, 1);
    fewer.set(107);
    fewer.choose(0, false);
    CHECK.outOfBounds("set(12) when one is off", () -> fewer.set(12));
    CHECK.outOfBounds("set(107) when one is off", () -> fewer.set(107));
  }

  private static void setLeavesTheTable() {
    CHECK.about("8", "THE STATE becomes that of a number");
    WITH_TABLE.answers("set(11), set(7)", x -> {
      x.set(11);
      x.set(7);
      return x.number();
    }, 7);
  }

  // Promise 9: number

  private static void theFirstNumberAndTheLast() {
    CHECK.about("Terms", "which of these its place is (from 0 on, rising) is added");
    CosetTables x = withChosen(8, 3, 6, 1, 4, 3);
    int[] pieces = {1, 3, 4, 6};
    x.set(0);
    for (int i = 0; i < 4; i++) {
      CHECK.same("place(" + pieces[i] + ") of the first", x.place(pieces[i]), i);
      CHECK.same("twist(" + pieces[i] + ") of the first", x.twist(pieces[i]), 0);
    }
    x.set(136079);
    for (int i = 0; i < 4; i++) {
      CHECK.same("place(" + pieces[i] + ") of the last", x.place(pieces[i]), 7 - i);
      CHECK.same("twist(" + pieces[i] + ") of the last", x.twist(pieces[i]), 2);
    }
  }

  private static void theTwistsComeLast() {
    CHECK.about("Terms", "then for each of them again: N becomes N times T, and its twist is added");
    CosetTables x = withChosen(3, 3, 2, 0);
    x.set(1);
    CHECK.same("twist(2) of 1", x.twist(2), 1);
    CHECK.same("twist(0) of 1", x.twist(0), 0);
    x.set(3);
    CHECK.same("twist(2) of 3", x.twist(2), 0);
    CHECK.same("twist(0) of 3", x.twist(0), 1);
    x.set(8);
    CHECK.same("place(2) of 8", x.place(2), 1);
    x.set(9);
    CHECK.same("place(2) of 9", x.place(2), 2);
    x.set(17);
    CHECK.same("place(0) of 17", x.place(0), 0);
    x.set(18);
    CHECK.same("place(0) of 18", x.place(0), 1);
    CHECK.same("place(2) of 18, a place before the first one's", x.place(2), 0);
    x.set(53);
    CHECK.same("place(0) of 53", x.place(0), 2);
    CHECK.same("place(2) of 53", x.place(2), 1);
  }

  private static void everyNumberComesBack() {
    CHECK.about("9", "THE STATE's number");
    int[][] choices = {{}, {0}, {7}, {0, 7}, {2, 5}, {1, 2, 6}, {0, 3, 4, 7}, {4, 5, 6, 7}};
    for (int[] pieces : choices) {
      int size = withChosen(8, 3, pieces).size();
      int differ = 0;
      for (int first = 0; first < size; first += 250) {
        CosetTables x = withChosen(8, 3, pieces);
        for (int n = first; n < Math.min(size, first + 250); n++) {
          x.set(n);
          differ += x.number() == n ? 0 : 1;
        }
      }
      CHECK.same("numbers of " + pieces.length + " that do not come back", differ, 0);
    }
  }

  private static void noTwoStatesHaveOneNumber() {
    CHECK.about("Terms", "A STATE says where each chosen piece is, no two at one place");
    boolean[] seen = new boolean[4096];
    int states = 0;
    for (int first = 0; first < 192; first += 48) {
      CosetTables x = withChosen(4, 2, 0, 2, 3);
      for (int n = first; n < first + 48; n++) {
        x.set(n);
        int key = 0;
        int places = 0;
        for (int p : new int[] {0, 2, 3}) {
          key = key * 8 + x.place(p) * 2 + x.twist(p);
          places |= 1 << x.place(p);
        }
        CHECK.same("places of " + n, Integer.bitCount(places), 3);
        states += seen[key] ? 0 : 1;
        seen[key] = true;
      }
    }
    CHECK.same("states that differ", states, 192);
  }

  // Promise 10: place

  private static void aPieceThatIsNotChosenHasNoPlace() {
    CHECK.about("10", "-1 when it is not chosen");
    CosetTables x = withChosen(8, 3, 0, 7);
    x.set(x.size() - 1);
    for (int p = 1; p < 7; p++) {
      CHECK.same("place(" + p + ")", x.place(p), -1);
    }
    CHECK.same("place(0)", x.place(0), 7);
    CHECK.same("place(7)", x.place(7), 6);
    x.choose(0, false);
    CHECK.same("place(0) when it is off", x.place(0), -1);
    CHECK.same("place(7)", x.place(7), 7);
  }

  private static void noPlaceOfAPieceThatIsNotThere() {
    CHECK.about("10", "ArrayIndexOutOfBoundsException: there is no such piece");
    for (int p : Puzzles.outside(3)) {
      UNTOUCHED.outOfBounds("place(" + p + ")", x -> x.place(p));
    }
    for (int p : Puzzles.outside(4)) {
      WITH_TABLE.outOfBounds("place(" + p + ")", x -> x.place(p));
    }
    for (int p : Puzzles.outside(8)) {
      CHECK.outOfBounds("place(" + p + ")", () -> withChosen(8, 1, 0, 7).place(p));
    }
  }

  // Promise 11: twist

  private static void aPieceThatIsNotChosenHasNoTwist() {
    CHECK.about("11", "-1 when it is not chosen");
    CosetTables x = withChosen(8, 3, 0, 7);
    x.set(x.size() - 1);
    for (int p = 1; p < 7; p++) {
      CHECK.same("twist(" + p + ")", x.twist(p), -1);
    }
    CHECK.same("twist(0)", x.twist(0), 2);
    CHECK.same("twist(7)", x.twist(7), 2);
    x.choose(0, false);
    CHECK.same("twist(0) when it is off", x.twist(0), -1);
    CHECK.same("twist(7)", x.twist(7), 0);
  }

  private static void noTwistOfAPieceThatIsNotThere() {
    CHECK.about("11", "ArrayIndexOutOfBoundsException: there is no such piece");
    for (int p : Puzzles.outside(3)) {
      UNTOUCHED.outOfBounds("twist(" + p + ")", x -> x.twist(p));
    }
    for (int p : Puzzles.outside(4)) {
      WITH_TABLE.outOfBounds("twist(" + p + ")", x -> x.twist(p));
    }
    for (int p : Puzzles.outside(8)) {
      CHECK.outOfBounds("twist(" + p + ")", () -> withChosen(8, 3, 0, 7).twist(p));
    }
  }

  private static void askingChangesNothing() {
    CHECK.about("7, 9, 10, 11", "size, number, place and twist only tell");
    WITH_TABLE.answers("size()", x -> x.size(), 12);
    WITH_TABLE.answers("number()", x -> x.number(), 7);
    WITH_TABLE.answers("place(1)", x -> x.place(1), 2);
    WITH_TABLE.answers("twist(1)", x -> x.twist(1), 1);
  }

  // Promise 12: apply

  private static void theFirstAndTheLastMoveAreDone() {
    CHECK.about("12", "A move is done to THE STATE");
    CosetTables x = withChosen(8, 3, 0);
    for (int m = 0; m < 6; m++) {
      x.move();
      x.exchange(m, m, m + 1);
      x.adds(m, m, m % 3);
    }
    for (int m = 0; m < 6; m++) {
      x.apply(m);
      CHECK.same("place(0) after move " + m, x.place(0), m + 1);
    }
    CHECK.same("twist(0) after 0, 1, 2, 0, 1 and 2 were added", x.twist(0), 0);
    x.apply(5);
    CHECK.same("place(0) after move 5 again", x.place(0), 5);
    x.apply(0);
    CHECK.same("place(0) after a move elsewhere", x.place(0), 5);
  }

  private static void aMoveIsBackAfterItsOrder() {
    CHECK.about("12", "A move is done to THE STATE");
    CosetTables x = withChosen(8, 3, 0, 5);
    Puzzles.circle(x, 0, 1, 2, 3, 4);
    x.exchange(0, 5, 6);
    x.exchange(0, 6, 7);
    x.adds(0, 5, 1);
    int goal = x.number();
    for (int i = 1; i < 45; i++) {
      x.apply(0);
      CHECK.yes("away from THE GOAL after " + i, x.number() != goal);
    }
    x.apply(0);
    CHECK.same("number() after 45", x.number(), goal);
  }

  private static void aMoveIsDoneWithNoneChosen() {
    CHECK.about("12", "A move is done to THE STATE");
    CosetTables x = new CosetTables(2, 3);
    Puzzles.circle(x, 0, 1);
    x.adds(0, 0, 2);
    x.apply(0);
    CHECK.same("number() with none chosen", x.number(), 0);
    x.choose(0, true);
    CHECK.same("number() of THE GOAL when one is chosen then", x.number(), 0);
  }

  private static void applyLeavesTheTable() {
    CHECK.about("12", "A move is done to THE STATE");
    WITH_TABLE.answers("apply(1), twice", x -> {
      x.apply(1);
      x.apply(1);
      return x.number();
    }, 7);
  }

  private static void aMoveThatIsNotThereIsNotDone() {
    CHECK.about("12", "ArrayIndexOutOfBoundsException: there is no such move");
    for (int m : Puzzles.outside(0)) {
      UNTOUCHED.outOfBounds("apply(" + m + ")", x -> x.apply(m));
    }
    for (int m : Puzzles.outside(2)) {
      ORDINARY.outOfBounds("apply(" + m + ")", x -> x.apply(m));
      WITH_TABLE.outOfBounds("apply(" + m + ")", x -> x.apply(m));
    }
    for (int m : Puzzles.outside(6)) {
      FULL.outOfBounds("apply(" + m + ")", x -> x.apply(m));
    }
  }

  public static void main(String[] args) {
    theFirstAndTheLastPieceAreChosen();
    whatIsSoAlreadyIsNotChosen();
    aFifthIsNotChosen();
    allOfFourPlacesAreChosen();
    oneOfFourIsTakenOff();
    aChoiceTakesTheTable();
    afterAChoiceTheStateIsTheGoal();
    noChoiceOfAPieceThatIsNotThere();
    withNoneChosenThereIsOneState();
    fromOneToFourChosen();
    theFirstAndTheLastNumberAreSet();
    atFirstTheStateIsTheGoal();
    aNumberThatIsNotThereIsNotSet();
    setLeavesTheTable();
    theFirstNumberAndTheLast();
    theTwistsComeLast();
    everyNumberComesBack();
    noTwoStatesHaveOneNumber();
    aPieceThatIsNotChosenHasNoPlace();
    noPlaceOfAPieceThatIsNotThere();
    aPieceThatIsNotChosenHasNoTwist();
    noTwistOfAPieceThatIsNotThere();
    askingChangesNothing();
    theFirstAndTheLastMoveAreDone();
    aMoveIsBackAfterItsOrder();
    aMoveIsDoneWithNoneChosen();
    applyLeavesTheTable();
    aMoveThatIsNotThereIsNotDone();
    CHECK.end();
  }
}
