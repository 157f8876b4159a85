/** Promises 13 to 17: each sentence that names a boundary case, by a test of its own. */
public final class TableBoundariesTest {
  private static final Check CHECK = new Check();
  private static final Twins UNTOUCHED = new Twins(CHECK, "untouched", Puzzles::untouched);
  private static final Twins NO_TABLE = new Twins(CHECK, "without a table", Puzzles::ordinary);
  private static final Twins MEASURE_0 =
      new Twins(CHECK, "with measure 0", Puzzles::ordinaryWithTable);
  private static final Twins MEASURE_1 =
      new Twins(CHECK, "with measure 1", Puzzles::ordinaryWithOtherTable);
  private static final Twins FULL = new Twins(CHECK, "full", Puzzles::full);

  /** No moves, so that THE GOAL, of number 0, alone has a value. */
  private static CosetTables onlyTheGoal(int places, int twists, int chosen) {
    CosetTables x = new CosetTables(places, twists);
    for (int p = 0; p < chosen; p++) {
      x.choose(p, true);
    }
    x.build(0);
    return x;
  }

  // Promise 13: build

  private static void bothMeasuresAreTaken() {
    CHECK.about("13", "THE TABLE of a measure is worked out");
    CosetTables x = Puzzles.ring();
    CHECK.same("build(0)", x.build(0), 7);
    CHECK.same("file(5) in measure 0", x.file(5), 0);
    CHECK.same("value(1) in measure 0", x.value(1), 7);
    CHECK.same("build(1)", x.build(1), 1);
    CHECK.same("file(5) in measure 1", x.file(5), 1);
    CHECK.same("value(1) in measure 1", x.value(1), 1);
    CHECK.same("build(0) once more", x.build(0), 7);
    CHECK.same("value(1) in measure 0 once more", x.value(1), 7);
    MEASURE_0.answers("build(0) again", y -> y.build(0), 9);
    MEASURE_1.answers("build(1) again", y -> y.build(1), 2);
  }

  private static void anotherMeasureIsRefused() {
    CHECK.about("13", "-1, doing nothing, when the measure is not 0 or 1");
    for (int measure : Puzzles.outside(2)) {
      UNTOUCHED.answers("build(" + measure + ")", x -> x.build(measure), -1);
      NO_TABLE.answers("build(" + measure + ")", x -> x.build(measure), -1);
      MEASURE_0.answers("build(" + measure + ")", x -> x.build(measure), -1);
      MEASURE_1.answers("build(" + measure + ")", x -> x.build(measure), -1);
      FULL.answers("build(" + measure + ")", x -> x.build(measure), -1);
    }
  }

  private static void withNothingToDoTheGreatestValueIsNone() {
    CHECK.about("13", "the greatest value");
    for (int measure = 0; measure <= 1; measure++) {
      CosetTables none = new CosetTables(8, 3);
      CHECK.same("build with none chosen and no moves", none.build(measure), 0);
      Puzzles.circle(none, 0, 7);
      CHECK.same("build with none chosen", none.build(measure), 0);
      CHECK.same("count(0) with none chosen", none.count(0), 1);
      CosetTables still = new CosetTables(8, 3);
      still.choose(7, true);
      CHECK.same("build without moves", still.build(measure), 0);
      still.move();
      CHECK.same("build with a move that leaves all", still.build(measure), 0);
      CHECK.same("count(-1) with a move that leaves all", still.count(-1), 23);
    }
  }

  private static void theGreatestValueIsThatOfSomeState() {
    CHECK.about("13", "the greatest value");
    CHECK.same("build(0) of 24 in a circle", Puzzles.longRing().build(0), 23);
    CHECK.same("build(1) of 24 in a circle", Puzzles.longRing().build(1), 1);
    for (int measure = 0; measure <= 1; measure++) {
      CosetTables x = Puzzles.full();
      int greatest = x.build(measure);
      CHECK.yes("some state has the greatest value", x.count(greatest) > 0);
      CHECK.same("count of one more", x.count(greatest + 1), 0);
    }
  }

  private static void aMoveIsDoneLessOftenThanItsOrder() {
    CHECK.about("Terms", "at least once and less often than its order");
    CosetTables once = new CosetTables(4, 1);
    Puzzles.circle(once, 0, 1);
    Puzzles.circle(once, 1, 2);
    Puzzles.circle(once, 2, 3);
    once.choose(0, true);
    for (int measure = 0; measure <= 1; measure++) {
      CHECK.same("build(" + measure + ") of moves of order 2", once.build(measure), 3);
      for (int n = 0; n < 4; n++) {
        CHECK.same("value(" + n + ")", once.value(n), n);
      }
    }
    CosetTables x = Puzzles.ring();
    x.build(1);
    CHECK.same("value(7), which is 1 time away", x.value(7), 1);
    CHECK.same("value(1), which is 7 times away", x.value(1), 1);
    CHECK.same("value(0), which is none away", x.value(0), 0);
  }

  private static void buildLeavesTheRest() {
    CHECK.about("13", "THE TABLE of a measure is worked out");
    CosetTables x = Puzzles.ordinary();
    x.build(1);
    CHECK.same("number()", x.number(), 7);
    CHECK.same("order(0)", x.order(0), 9);
    CHECK.same("size()", x.size(), 12);
    CHECK.no("good(0)", x.good(0));
  }

  // Promise 14: value

  private static void theFirstAndTheLastStateHaveValues() {
    CHECK.about("14", "A state's value");
    CosetTables x = Puzzles.longRing();
    x.build(0);
    for (int n = 0; n < 24; n++) {
      CHECK.same("value(" + n + ")", x.value(n), Puzzles.longRingValue(n));
    }
    CosetTables two = new CosetTables(2, 1);
    Puzzles.circle(two, 0, 1);
    two.choose(0, true);
    two.choose(1, true);
    two.build(0);
    CHECK.same("value(0) of two states", two.value(0), 0);
    CHECK.same("value(1) of two states", two.value(1), 1);
  }

  private static void whatCantComeToTheGoalHasNoValue() {
    CHECK.about("14", "-1 when THE GOAL can't be come to from it");
    CosetTables x = onlyTheGoal(4, 3, 2);
    CHECK.same("value(0), THE GOAL", x.value(0), 0);
    for (int n = 1; n < 108; n++) {
      CHECK.same("value(" + n + ")", x.value(n), -1);
    }
    CosetTables part = new CosetTables(3, 2);
    Puzzles.circle(part, 0, 1);
    part.choose(0, true);
    for (int measure = 0; measure <= 1; measure++) {
      part.build(measure);
      int[] due = {0, -1, 1, -1, -1, -1};
      for (int n = 0; n < 6; n++) {
        CHECK.same("value(" + n + ") with places and twists apart", part.value(n), due[n]);
      }
    }
  }

  private static void withoutATableNoStateHasAValue() {
    CHECK.about("14", "-2 without a table");
    CosetTables x = Puzzles.ordinary();
    for (int n = 0; n < 12; n++) {
      CHECK.same("value(" + n + ")", x.value(n), -2);
    }
    CHECK.same("value(0) of a new object", Puzzles.untouched().value(0), -2);
    CosetTables gone = onlyTheGoal(4, 3, 2);
    gone.move();
    CHECK.same("value(0) when it is gone", gone.value(0), -2);
    CHECK.same("value(107) when it is gone", gone.value(107), -2);
  }

  private static void noValueOfAStateThatIsNotThere() {
    CHECK.about("14", "ArrayIndexOutOfBoundsException: there is no such state");
    for (int n : Puzzles.outside(1)) {
      UNTOUCHED.outOfBounds("value(" + n + ")", x -> x.value(n));
    }
    for (int n : Puzzles.outside(12)) {
      NO_TABLE.outOfBounds("value(" + n + ")", x -> x.value(n));
      MEASURE_0.outOfBounds("value(" + n + ")", x -> x.value(n));
    }
    for (int n : Puzzles.outside(120)) {
      FULL.outOfBounds("value(" + n + ")", x -> x.value(n));
    }
    CosetTables great = onlyTheGoal(8, 3, 4);
    CHECK.same("value(136079)", great.value(136079), -1);
    CHECK.outOfBounds("value(136080)", () -> great.value(136080));
    great.choose(0, false);
    great.build(0);
    CHECK.outOfBounds("value(9072) when fewer are chosen", () -> great.value(9072));
    CHECK.same("value(9071) when fewer are chosen", great.value(9071), -1);
  }

  // Promise 15: count

  private static void everyValueIsCounted() {
    CHECK.about("15", "How many states have a value");
    CosetTables x = Puzzles.longRing();
    x.build(0);
    for (int v = 0; v < 24; v++) {
      CHECK.same("count(" + v + ")", x.count(v), 1);
    }
    x.build(1);
    CHECK.same("count(0) in measure 1", x.count(0), 1);
    CHECK.same("count(1) in measure 1", x.count(1), 23);
  }

  private static void aValueThatNoStateHasIsCountedAsNone() {
    CHECK.about("15", "How many states have a value");
    CosetTables x = Puzzles.longRing();
    x.build(0);
    for (int v : new int[] {24, 25, -2, -3, Integer.MIN_VALUE, Integer.MAX_VALUE}) {
      CHECK.same("count(" + v + ")", x.count(v), 0);
    }
    CosetTables one = onlyTheGoal(2, 1, 0);
    CHECK.same("count(0) of one state", one.count(0), 1);
    CHECK.same("count(1) of one state", one.count(1), 0);
    CHECK.same("count(-1) of one state", one.count(-1), 0);
  }

  private static void whatCantBeComeToIsCounted() {
    CHECK.about("15", "(-1: can't be come to)");
    CHECK.same("count(-1) when all but one can't", onlyTheGoal(8, 3, 4).count(-1), 136079);
    CHECK.same("count(0) when all but one can't", onlyTheGoal(8, 3, 4).count(0), 1);
    CosetTables x = Puzzles.ring();
    x.build(1);
    CHECK.same("count(-1) when all can", x.count(-1), 0);
    x.exchange(0, 0, 1);
    x.build(1);
    CHECK.same("count(-1) when one can't", x.count(-1), 1);
  }

  private static void withoutATableNothingIsCounted() {
    CHECK.about("15", "-1 without a table");
    for (int v : new int[] {-2, -1, 0, 1, 14, Integer.MIN_VALUE, Integer.MAX_VALUE}) {
      UNTOUCHED.answers("count(" + v + ")", x -> x.count(v), -1);
      NO_TABLE.answers("count(" + v + ")", x -> x.count(v), -1);
    }
    CosetTables gone = Puzzles.ordinaryWithTable();
    gone.choose(0, true);
    CHECK.same("count(0) when it is gone", gone.count(0), -1);
    CHECK.same("count(-1) when it is gone", gone.count(-1), -1);
  }

  // Promise 16: packed

  private static void theFirstStateIsLowest() {
    CHECK.about("16", "with 2 bits a state (the first one's lowest)");
    CosetTables x = Puzzles.longRing();
    x.build(0);
    for (int n = 0; n < 24; n++) {
      CHECK.same("state " + n + " in 2 bits", x.packed(2, 0) >>> 2 * n & 3,
          Puzzles.longRingValue(n) % 3);
    }
    for (int n = 0; n < 24; n++) {
      CHECK.same("state " + n + " in 4 bits", x.packed(4, n / 16) >>> 4 * (n % 16) & 15,
          Math.min(14, Puzzles.longRingValue(n)));
    }
  }

  private static void inTwoBitsAValueGoesRound() {
    CHECK.about("16", "the value modulo 3");
    CosetTables x = Puzzles.ring();
    x.build(0);
    // The values 0 7 6 5 4 3 2 1.
    CHECK.same("packed(2, 0)", x.packed(2, 0), 0b01_10_00_01_10_00_01_00);
  }

  private static void inTwoBitsNoValueIsThree() {
    CHECK.about("16", "or 3 when it has none");
    CHECK.same("packed(2, 0) of 12 states", onlyTheGoal(4, 3, 1).packed(2, 0), 0xFFFFFCL);
    CHECK.same("packed(2, 0) of 384 states", onlyTheGoal(4, 2, 4).packed(2, 0), -4L);
  }

  /** Sixteen states in one circle: number 2 q + t has the value 16 - (q + 8 t). */
  private static CosetTables sixteen() {
    CosetTables x = new CosetTables(8, 2);
    Puzzles.circle(x, 0, 1, 2, 3, 4, 5, 6, 7);
    x.adds(0, 7, 1);
    x.choose(0, true);
    x.build(0);
    return x;
  }

  private static void inFourBitsAGreatValueIsFourteen() {
    CHECK.about("16", "with 4 bits the value, 14 when it is greater");
    CosetTables x = sixteen();
    // The values 0 8 15 7 14 6 13 5 12 4 11 3 10 2 9 1.
    CHECK.same("value(6)", x.value(6), 13);
    CHECK.same("value(4)", x.value(4), 14);
    CHECK.same("value(2)", x.value(2), 15);
    CHECK.same("packed(4, 0)", x.packed(4, 0), 0x192A3B4C5D6E7E80L);
    CHECK.same("packed(2, 0)", x.packed(2, 0), 0b01_00_10_01_00_10_01_00_10_01_00_10_01_00_10_00L);
  }

  private static void inFourBitsNoValueIsFifteen() {
    CHECK.about("16", "15 when it has none");
    CHECK.same("packed(4, 0) of 12 states", onlyTheGoal(4, 3, 1).packed(4, 0), 0xFFFFFFFFFFF0L);
    CHECK.same("packed(4, 0) of 384 states", onlyTheGoal(4, 2, 4).packed(4, 0), -16L);
  }

  private static void behindTheLastStateIsNothing() {
    CHECK.about("16", "what is behind the last state is 0");
    CosetTables fifteen = onlyTheGoal(5, 3, 1);
    CHECK.same("packed(4, 0) of 15 states", fifteen.packed(4, 0), 0x0FFFFFFFFFFFFFF0L);
    CHECK.same("packed(2, 0) of 15 states", fifteen.packed(2, 0), 0x3FFFFFFCL);
    CosetTables eighteen = onlyTheGoal(6, 3, 1);
    CHECK.same("packed(4, 1) of 18 states", eighteen.packed(4, 1), 0xFFL);
    CHECK.same("packed(2, 0) of 18 states", eighteen.packed(2, 0), 0xFFFFFFFFCL);
    CosetTables great = onlyTheGoal(8, 3, 4);
    CHECK.same("packed(2, 4252) of 136080 states", great.packed(2, 4252), 0xFFFFFFFFL);
    CHECK.same("packed(4, 8504) of 136080 states", great.packed(4, 8504), -1L);
    CHECK.same("packed(4, 0) of one state", onlyTheGoal(2, 1, 0).packed(4, 0), 0);
    CHECK.same("packed(2, 0) of one state", onlyTheGoal(2, 1, 0).packed(2, 0), 0);
  }

  private static void withoutATableNothingIsPacked() {
    CHECK.about("16", "0 without a table");
    for (int k : new int[] {0, 1, -1, Integer.MAX_VALUE, Integer.MIN_VALUE}) {
      for (int bits = 2; bits <= 4; bits += 2) {
        int taken = bits;
        UNTOUCHED.answers("packed(" + bits + ", " + k + ")", x -> x.packed(taken, k), 0);
        NO_TABLE.answers("packed(" + bits + ", " + k + ")", x -> x.packed(taken, k), 0);
      }
    }
    CosetTables gone = onlyTheGoal(4, 2, 4);
    CHECK.same("packed(2, 11) before", gone.packed(2, 11), -1);
    gone.move();
    CHECK.same("packed(2, 11) when it is gone", gone.packed(2, 11), 0);
    CHECK.same("packed(4, 0) when it is gone", gone.packed(4, 0), 0);
  }

  private static void beyondTheLastIsNothing() {
    CHECK.about("16", "or when k is beyond");
    CosetTables x = onlyTheGoal(4, 2, 4);
    CHECK.same("packed(2, 11) of 384 states", x.packed(2, 11), -1L);
    CHECK.same("packed(2, 12) of 384 states", x.packed(2, 12), 0);
    CHECK.same("packed(4, 23) of 384 states", x.packed(4, 23), -1L);
    CHECK.same("packed(4, 24) of 384 states", x.packed(4, 24), 0);
    CHECK.yes("packed(4, 0) of 16 states", sixteen().packed(4, 0) != 0);
    CHECK.same("packed(4, 1) of 16 states", sixteen().packed(4, 1), 0);
    CosetTables great = onlyTheGoal(8, 3, 4);
    CHECK.same("packed(2, 4253) of 136080 states", great.packed(2, 4253), 0);
    CHECK.same("packed(4, 8505) of 136080 states", great.packed(4, 8505), 0);
    // 32 k and 16 k go round to small numbers for these.
    for (int k : new int[] {1 << 27, (1 << 27) + 1, 1 << 28, (1 << 28) + 1, -(1 << 27), -(1 << 28),
        1 - (1 << 27), -1, -2, Integer.MAX_VALUE, Integer.MIN_VALUE, Integer.MIN_VALUE + 1}) {
      CHECK.same("packed(2, " + k + ")", x.packed(2, k), 0);
      CHECK.same("packed(4, " + k + ")", x.packed(4, k), 0);
    }
  }

  private static void otherBitsAreRefused() {
    CHECK.about("16", "IllegalArgumentException: bits is not 2 or 4");
    for (int bits : new int[] {1, 3, 5, 0, -2, -4, 8, 64, Integer.MIN_VALUE, Integer.MAX_VALUE}) {
      MEASURE_0.illegal("packed(" + bits + ", 0)", x -> x.packed(bits, 0));
      MEASURE_1.illegal("packed(" + bits + ", 99)", x -> x.packed(bits, 99));
      NO_TABLE.illegal("packed(" + bits + ", 0)", x -> x.packed(bits, 0));
      UNTOUCHED.illegal("packed(" + bits + ", -1)", x -> x.packed(bits, -1));
    }
  }

  // Promise 17: down

  private static void downIsOneLess() {
    CHECK.about("17", "a state with a value that is one less, modulo 3, is come to");
    // A circle of 24 states both ways: move 0 leads away from home where move 1 leads home.
    CosetTables x = Puzzles.longRing();
    Puzzles.circle(x, 7, 6, 5, 4, 3, 2, 1, 0);
    x.adds(1, 0, 2);
    CHECK.same("build(0)", x.build(0), 12);
    for (int n = 0; n < 24; n++) {
      x.set(n);
      int left = Puzzles.longRingValue(n);
      CHECK.same("value(" + n + ")", x.value(n), Math.min(left, 24 - left) % 24);
      CHECK.same("down() where " + left + " are left", x.down(),
          left == 0 ? -1 : left <= 12 ? 1 : 17);
    }
  }

  private static void downCountsValuesModuloThree() {
    CHECK.about("17", "one less, modulo 3");
    // Move 0 goes 4 -> 5 -> 6 -> 4, move 1 round all eight: place 6 has the value 2, place 4 has 4.
    CosetTables x = new CosetTables(8, 1);
    Puzzles.circle(x, 4, 5, 6);
    Puzzles.circle(x, 0, 1, 2, 3, 4, 5, 6, 7);
    x.choose(0, true);
    x.build(0);
    x.set(6);
    CHECK.same("down() from 2 to 4, one less modulo 3", x.down(), 1);
    x.set(3);
    CHECK.same("down() from 5 to 4 by the second move", x.down(), 17);
    x.set(5);
    CHECK.same("down() from 3 to 2 by the first of two", x.down(), 1);
  }

  private static void theLeastMoveGoesBeforeTheFewestTimes() {
    CHECK.about("17", "The least move by which");
    CosetTables x = new CosetTables(4, 1);
    x.move();
    Puzzles.circle(x, 0, 1, 2, 3);
    Puzzles.circle(x, 0, 1);
    x.choose(0, true);
    x.build(1);
    x.set(1);
    CHECK.same("down() by move 1, thrice, not by move 2, once", x.down(), 16 + 3);
    CosetTables last = new CosetTables(3, 1);
    for (int m = 0; m < 5; m++) {
      last.move();
    }
    Puzzles.circle(last, 0, 1, 2);
    last.choose(0, true);
    last.build(0);
    last.set(2);
    CHECK.same("down() by the sixth move", last.down(), 16 * 5 + 1);
    last.build(1);
    last.set(1);
    CHECK.same("down() by the sixth move, twice", last.down(), 16 * 5 + 2);
  }

  private static void theFewestTimesAreTold() {
    CHECK.about("17", "how often (the fewest times)");
    CosetTables x = new CosetTables(8, 1);
    Puzzles.circle(x, 0, 1, 2);
    x.exchange(0, 3, 4);
    x.exchange(0, 4, 5);
    x.exchange(0, 5, 6);
    x.exchange(0, 6, 7);
    CHECK.same("order(0)", x.order(0), 15);
    x.choose(0, true);
    x.build(1);
    x.set(2);
    CHECK.same("down() after 1, 4, 7, 10 or 13 times", x.down(), 1);
    x.set(1);
    CHECK.same("down() after 2, 5, 8, 11 or 14 times", x.down(), 2);
    x.choose(3, true);
    x.build(1);
    x.apply(0);
    CHECK.same("down() after 14 times alone", x.down(), 14);
    x.build(0);
    CHECK.same("down() in measure 0, once", x.down(), 1);
  }

  private static void atTheGoalThereIsNoDown() {
    CHECK.about("17", "-1 when its value is 0");
    for (int measure = 0; measure <= 1; measure++) {
      CosetTables x = Puzzles.ring();
      x.build(measure);
      CHECK.same("down() at THE GOAL", x.down(), -1);
      CHECK.same("number() after that", x.number(), 0);
    }
    CHECK.same("down() with none chosen", onlyTheGoal(3, 3, 0).down(), -1);
  }

  private static void withoutAValueThereIsNoDown() {
    CHECK.about("17", "or none");
    CosetTables x = new CosetTables(4, 3);
    Puzzles.circle(x, 0, 1, 2, 3);
    x.choose(0, true);
    for (int measure = 0; measure <= 1; measure++) {
      x.build(measure);
      x.set(1);
      CHECK.same("down() at home, twisted", x.down(), -1);
      x.set(11);
      CHECK.same("down() from the last", x.down(), -1);
      x.set(9);
      CHECK.same("down() from place 3, untwisted", x.down(), 1);
    }
  }

  private static void withoutATableThereIsNoDown() {
    CHECK.about("17", "or there is no table");
    UNTOUCHED.answers("down()", x -> x.down(), -1);
    NO_TABLE.answers("down()", x -> x.down(), -1);
    CosetTables gone = Puzzles.ring();
    gone.build(0);
    gone.set(3);
    CHECK.same("down() with a table", gone.down(), 1);
    gone.exchange(0, 0, 1);
    CHECK.same("down() when it is gone", gone.down(), -1);
  }

  private static void downMovesNothing() {
    CHECK.about("17", "down only tells");
    MEASURE_0.answers("down()", x -> x.down(), 1);
    MEASURE_1.answers("down()", x -> x.down() >= 0 ? 1 : 0, 1);
    FULL.answers("down()", x -> x.down() >= 0 ? 1 : 0, 1);
  }

  /** In measure 1 a step changes a value by one at most, so the walk takes just as many steps. */
  private static void walkingDownLeadsHome() {
    CHECK.about("17", "is come to from THE STATE");
    for (int n = 0; n < 120; n += 7) {
      CosetTables x = Puzzles.full();
      x.set(n);
      int value = x.value(n);
      for (int left = value; left > 0; left--) {
        int step = x.down();
        for (int i = 0; i < step % 16; i++) {
          x.apply(step / 16);
        }
        CHECK.same("value on the way from " + n, x.value(x.number()), left - 1);
      }
      CHECK.same("down() when home", x.down(), -1);
    }
  }

  public static void main(String[] args) {
    bothMeasuresAreTaken();
    anotherMeasureIsRefused();
    withNothingToDoTheGreatestValueIsNone();
    theGreatestValueIsThatOfSomeState();
    aMoveIsDoneLessOftenThanItsOrder();
    buildLeavesTheRest();
    theFirstAndTheLastStateHaveValues();
    whatCantComeToTheGoalHasNoValue();
    withoutATableNoStateHasAValue();
    noValueOfAStateThatIsNotThere();
    everyValueIsCounted();
    aValueThatNoStateHasIsCountedAsNone();
    whatCantBeComeToIsCounted();
    withoutATableNothingIsCounted();
    theFirstStateIsLowest();
    inTwoBitsAValueGoesRound();
    inTwoBitsNoValueIsThree();
    inFourBitsAGreatValueIsFourteen();
    inFourBitsNoValueIsFifteen();
    behindTheLastStateIsNothing();
    withoutATableNothingIsPacked();
    beyondTheLastIsNothing();
    otherBitsAreRefused();
    downIsOneLess();
    downCountsValuesModuloThree();
    theLeastMoveGoesBeforeTheFewestTimes();
    theFewestTimesAreTold();
    atTheGoalThereIsNoDown();
    withoutAValueThereIsNoDown();
    withoutATableThereIsNoDown();
    downMovesNothing();
    walkingDownLeadsHome();
    CHECK.end();
  }
}
