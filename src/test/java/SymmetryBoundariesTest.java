/** Promises 18 to 22: each sentence that names a boundary case, by a test of its own. */
public final class SymmetryBoundariesTest {
  private static final Check CHECK = new Check();
  private static final Twins UNTOUCHED = new Twins(CHECK, "untouched", Puzzles::untouched);
  private static final Twins ORDINARY = new Twins(CHECK, "ordinary", Puzzles::ordinary);
  private static final Twins WITH_TABLE =
      new Twins(CHECK, "with a table", Puzzles::ordinaryWithTable);
  private static final Twins STILL = new Twins(CHECK, "without moves",
      SymmetryBoundariesTest::withoutMoves);
  private static final Twins FULL = new Twins(CHECK, "full", Puzzles::full);

  /** All pieces chosen and no moves: every symmetry is good, so that what it does can be seen. */
  private static CosetTables withoutMoves() {
    CosetTables x = allOfFour();
    x.symmetry();
    x.symmetry();
    x.turn(0, 0, 1);
    x.set(13);
    x.build(0);
    return x;
  }

  private static CosetTables allOfFour() {
    CosetTables x = new CosetTables(4, 1);
    for (int p = 0; p < 4; p++) {
      x.choose(p, true);
    }
    return x;
  }

  private static int turned(CosetTables x, int... places) {
    int symmetry = x.symmetry();
    for (int i = 0; i + 1 < places.length; i++) {
      x.turn(symmetry, places[i], places[i + 1]);
    }
    return symmetry;
  }

  // Promise 18: symmetry

  private static void symmetriesHaveTheNumbersFromZeroToThree() {
    CHECK.about("18", "its number");
    CosetTables x = new CosetTables(2, 1);
    for (int s = 0; s < 4; s++) {
      int next = s;
      CHECK.outOfBounds("good(" + s + ") before", () -> x.good(next));
      CHECK.same("symmetry()", x.symmetry(), s);
      CHECK.yes("good(" + s + ")", x.good(s));
    }
  }

  private static void aNewSymmetryLeavesAllPlaces() {
    CHECK.about("18", "A symmetry that leaves all places");
    CosetTables x = Puzzles.ordinary();
    for (int s = 1; s < 4; s++) {
      x.symmetry();
      CHECK.yes("good(" + s + ") of a new one", x.good(s));
      CHECK.same("classes() with a new one", x.classes(), 12);
      x.turn(s, 0, s);
    }
    CosetTables all = allOfFour();
    for (int s = 0; s < 4; s++) {
      all.symmetry();
      CHECK.same("classes() with one more", all.classes(), 24);
      CHECK.same("least(23) with one more", all.least(23), 23);
    }
  }

  private static void aFifthSymmetryIsRefused() {
    CHECK.about("18", "-1 when there are 4");
    FULL.answers("symmetry()", x -> x.symmetry(), -1);
    FULL.answers("symmetry(), twice", x -> x.symmetry() + x.symmetry(), -2);
    CosetTables x = allOfFour();
    for (int s = 0; s < 4; s++) {
      turned(x, s % 2, 2 + s % 2);
    }
    int classes = x.classes();
    CHECK.same("a fifth symmetry()", x.symmetry(), -1);
    CHECK.same("classes() after that", x.classes(), classes);
    CHECK.outOfBounds("good(4)", () -> x.good(4));
    CHECK.outOfBounds("turn(4, 0, 1)", () -> x.turn(4, 0, 1));
  }

  private static void aSymmetryLeavesTheTable() {
    CHECK.about("18", "A symmetry that leaves all places: its number");
    CosetTables x = Puzzles.ordinaryWithTable();
    for (int s = 1; s < 4; s++) {
      x.symmetry();
      CHECK.table("after symmetry()", x, true);
      CHECK.same("number() after symmetry()", x.number(), 7);
    }
  }

  // Promise 19: turn

  private static void theFirstAndTheLastPlaceAreTurned() {
    CHECK.about("19", "the goals of two places are exchanged: true");
    for (int places = 2; places <= 8; places++) {
      CosetTables x = new CosetTables(places, 1);
      int last = places - 1;
      x.symmetry();
      x.choose(0, true);
      x.choose(last, true);
      CHECK.yes("turn(0, 0, " + last + ")", x.turn(0, 0, last));
      CHECK.yes("good(0) of two chosen pieces", x.good(0));
      x.choose(last, false);
      CHECK.no("good(0) when " + last + " is not chosen", x.good(0));
      CHECK.yes("turn(0, " + last + ", 0)", x.turn(0, last, 0));
      CHECK.yes("good(0) when turned back", x.good(0));
    }
  }

  private static void onePlaceIsNotTurned() {
    CHECK.about("19", "false when they are one");
    for (int i = 0; i < 4; i++) {
      int q = i;
      ORDINARY.refuses("turn(0, q, q)", x -> Twins.bit(x.turn(0, q, q)));
      WITH_TABLE.refuses("turn(0, q, q)", x -> Twins.bit(x.turn(0, q, q)));
      STILL.refuses("turn(0, q, q)", x -> Twins.bit(x.turn(0, q, q)));
      STILL.refuses("turn(1, q, q)", x -> Twins.bit(x.turn(1, q, q)));
    }
    FULL.refuses("turn(3, 4, 4)", x -> Twins.bit(x.turn(3, 4, 4)));
  }

  private static void noTurnOfASymmetryThatIsNotThere() {
    CHECK.about("19", "ArrayIndexOutOfBoundsException: there is no such symmetry");
    for (int s : Puzzles.outside(0)) {
      UNTOUCHED.outOfBounds("turn(" + s + ", 0, 1)", x -> x.turn(s, 0, 1));
    }
    for (int s : Puzzles.outside(1)) {
      WITH_TABLE.outOfBounds("turn(" + s + ", 0, 1)", x -> x.turn(s, 0, 1));
      WITH_TABLE.outOfBounds("turn(" + s + ", 1, 1)", x -> x.turn(s, 1, 1));
    }
    for (int s : Puzzles.outside(2)) {
      STILL.outOfBounds("turn(" + s + ", 0, 1)", x -> x.turn(s, 0, 1));
    }
    for (int s : Puzzles.outside(4)) {
      FULL.outOfBounds("turn(" + s + ", 0, 1)", x -> x.turn(s, 0, 1));
    }
  }

  private static void noTurnOfAPlaceThatIsNotThere() {
    CHECK.about("19", "or place");
    for (int q : Puzzles.outside(4)) {
      WITH_TABLE.outOfBounds("turn(0, " + q + ", 1)", x -> x.turn(0, q, 1));
      STILL.outOfBounds("turn(0, " + q + ", 1)", x -> x.turn(0, q, 1));
      STILL.outOfBounds("turn(1, 2, " + q + ")", x -> x.turn(1, 2, q));
      STILL.outOfBounds("turn(1, " + q + ", the same)", x -> x.turn(1, q, q));
    }
    CosetTables eight = new CosetTables(8, 1);
    eight.symmetry();
    CHECK.outOfBounds("turn(0, 0, 8)", () -> eight.turn(0, 0, 8));
    CHECK.yes("turn(0, 0, 7)", eight.turn(0, 0, 7));
  }

  private static void aTurnLeavesTheTable() {
    CHECK.about("19", "In a symmetry the goals of two places are exchanged");
    CosetTables x = withoutMoves();
    x.turn(1, 2, 3);
    CHECK.table("after turn(1, 2, 3)", x, true);
    CHECK.same("number() after turn(1, 2, 3)", x.number(), 13);
    x.turn(1, 3, 2);
    CHECK.same("classes() when turned back", x.classes(), withoutMoves().classes());
  }

  // Promise 20: good

  private static void withNoMovesAndNoneChosenAllAreGood() {
    CHECK.about("Terms", "It is GOOD when it takes chosen pieces to chosen ones .. and each move");
    for (int places = 2; places <= 8; places++) {
      CosetTables x = new CosetTables(places, 3);
      for (int s = 0; s < 4; s++) {
        turned(x, s % places, places - 1, 0);
        CHECK.yes("good(" + s + ") of " + places, x.good(s));
      }
    }
  }

  private static void withAllChosenPiecesStayAmongThem() {
    CHECK.about("Terms", "it takes chosen pieces to chosen ones");
    CosetTables x = allOfFour();
    turned(x, 0, 1, 2, 3);
    turned(x, 0, 3);
    CHECK.yes("good(0) with all chosen", x.good(0));
    CHECK.yes("good(1) with all chosen", x.good(1));
    x.choose(2, false);
    CHECK.no("good(0) without one of its circle", x.good(0));
    CHECK.yes("good(1) without one that it leaves", x.good(1));
    x.choose(0, false);
    CHECK.no("good(1) with 3 to 0, which is not chosen", x.good(1));
    x.choose(0, true);
    x.choose(3, false);
    CHECK.no("good(1) with 0 to 3, which is not chosen", x.good(1));
  }

  private static void eachMoveGoesToAMove() {
    CHECK.about("Terms", "and each move to a move");
    CosetTables x = new CosetTables(8, 1);
    int s = turned(x, 0, 7);
    x.move();
    CHECK.yes("good with a move that leaves all", x.good(s));
    x.exchange(0, 0, 1);
    CHECK.no("good when the first of one goes to none", x.good(s));
    Puzzles.circle(x, 7, 1);
    CHECK.yes("good when two go to one another", x.good(s));
    for (int m = 2; m < 5; m++) {
      Puzzles.circle(x, 0, 1);
      CHECK.yes("good when several are alike", x.good(s));
    }
    Puzzles.circle(x, 0, 2);
    CHECK.no("good when the sixth goes to none", x.good(s));
    x.exchange(5, 0, 2);
    x.exchange(5, 0, 7);
    CHECK.yes("good when the sixth goes to itself", x.good(s));
  }

  private static void asMuchIsAdded() {
    CHECK.about("Terms", "place s(a) goes to s(b) with as much added");
    CosetTables x = new CosetTables(4, 3);
    int s = turned(x, 1, 3);
    Puzzles.circle(x, 1, 3);
    CHECK.yes("good with nothing added", x.good(s));
    x.adds(0, 1, 2);
    CHECK.no("good with 2 and 0 added", x.good(s));
    x.adds(0, 3, 1);
    CHECK.no("good with 2 and 1 added", x.good(s));
    x.adds(0, 3, 2);
    CHECK.yes("good with 2 and 2 added", x.good(s));
    x.adds(0, 0, 1);
    CHECK.yes("good with 1 added at a place that is left", x.good(s));
  }

  private static void asMuchIsAddedAtTheFirstPlaceAndAtTheLast() {
    CHECK.about("Terms", "place s(a) goes to s(b) with as much added");
    for (int q = 0; q < 4; q++) {
      CosetTables x = new CosetTables(4, 2);
      int other = (q + 1) % 4;
      int s = turned(x, q, other);
      x.move();
      x.move();
      x.adds(1, q, 1);
      CHECK.no("good with 1 added at " + q + " alone", x.good(s));
      x.adds(0, other, 1);
      CHECK.yes("good with 1 added at " + other + " by the other move", x.good(s));
    }
  }

  private static void noneIsGoodThatIsNotThere() {
    CHECK.about("20", "ArrayIndexOutOfBoundsException: there is no such symmetry");
    for (int s : Puzzles.outside(0)) {
      UNTOUCHED.outOfBounds("good(" + s + ")", x -> x.good(s));
    }
    for (int s : Puzzles.outside(1)) {
      WITH_TABLE.outOfBounds("good(" + s + ")", x -> x.good(s));
    }
    for (int s : Puzzles.outside(4)) {
      FULL.outOfBounds("good(" + s + ")", x -> x.good(s));
    }
  }

  private static void goodOnlyTells() {
    CHECK.about("20", "Whether a symmetry is GOOD");
    WITH_TABLE.refuses("good(0)", x -> Twins.bit(x.good(0)));
    STILL.answers("good(0)", x -> Twins.bit(x.good(0)), 1);
  }

  // Promise 21: least

  private static void withNoneChosenTheLeastIsZero() {
    CHECK.about("21", "The least number of a state of the CLASS of one");
    CosetTables x = new CosetTables(8, 3);
    turned(x, 0, 7);
    CHECK.same("least(0) with none chosen", x.least(0), 0);
    CHECK.outOfBounds("least(1) with none chosen", () -> x.least(1));
  }

  private static void withoutSymmetriesEachIsItsOwn() {
    CHECK.about("21", "The least number of a state of the CLASS of one");
    CosetTables x = allOfFour();
    for (int n = 0; n < 24; n++) {
      CHECK.same("least(" + n + ")", x.least(n), n);
    }
  }

  /** By both of these every permutation of four is one of theirs: the classes have one shape. */
  private static void statesGoOneAfterTheOther() {
    CHECK.about("Terms", "States that good symmetries take into one another, one after the other");
    CosetTables x = allOfFour();
    turned(x, 0, 1);
    turned(x, 0, 1, 2, 3);
    for (int n = 0; n < 24; n++) {
      x.set(n);
      CHECK.same("least(" + n + ")", x.least(n), leastOfShape(x));
    }
    CHECK.same("classes()", x.classes(), 5);
  }

  private static int leastOfShape(CosetTables x) {
    int home = 0;
    int pairs = 0;
    for (int p = 0; p < 4; p++) {
      home += x.place(p) == p ? 1 : 0;
      pairs += x.place(p) != p && x.place(x.place(p)) == p ? 1 : 0;
    }
    return home == 4 ? 0 : home == 2 ? 1 : home == 1 ? 3 : pairs == 4 ? 7 : 9;
  }

  private static void oneSymmetryIsDoneAgainAndAgain() {
    CHECK.about("Terms", "one after the other");
    CosetTables x = allOfFour();
    turned(x, 0, 1, 2, 3);
    // Two neighbours exchanged: 2 3 (number 1), 1 2 (2), 0 1 (6), 3 0 (21).
    for (int n : new int[] {1, 2, 6, 21}) {
      CHECK.same("least(" + n + ")", x.least(n), 1);
    }
    // Two that are no neighbours: 1 3 (5) and 0 2 (14).
    CHECK.same("least(14)", x.least(14), 5);
    CHECK.same("least(5)", x.least(5), 5);
    CHECK.same("least(0)", x.least(0), 0);
  }

  private static void twistsGoAlong() {
    CHECK.about("Terms", "in which piece s(p) is at s(q), twisted alike");
    CosetTables x = new CosetTables(2, 3);
    x.choose(0, true);
    x.choose(1, true);
    turned(x, 0, 1);
    for (int n = 0; n < 18; n++) {
      int first = n % 9 / 3;
      int second = n % 3;
      CHECK.same("least(" + n + ")", x.least(n),
          n / 9 * 9 + Math.min(3 * first + second, 3 * second + first));
    }
  }

  private static void whatIsNotGoodTakesNoneTogether() {
    CHECK.about("Terms", "States that good symmetries take into one another");
    CosetTables x = new CosetTables(4, 1);
    Puzzles.circle(x, 0, 1);
    x.choose(0, true);
    // 0 and 2, and after that 2 and 3: neither is good, although both together would be.
    turned(x, 0, 2);
    turned(x, 0, 2);
    x.turn(1, 2, 3);
    CHECK.no("good(0)", x.good(0));
    CHECK.no("good(1)", x.good(1));
    for (int n = 0; n < 4; n++) {
      CHECK.same("least(" + n + ")", x.least(n), n);
    }
    turned(x, 2, 3);
    CHECK.yes("good(2)", x.good(2));
    CHECK.same("least(3) by a good one", x.least(3), 2);
    CHECK.same("least(2) by a good one", x.least(2), 2);
    x.exchange(0, 1, 2);
    CHECK.same("least(3) when it is good no more", x.least(3), 3);
    x.exchange(0, 1, 2);
    CHECK.same("least(3) when it is good again", x.least(3), 2);
    x.adds(0, 2, 0);
    CHECK.same("least(3) when nothing changed", x.least(3), 2);
  }

  private static void noLeastOfAStateThatIsNotThere() {
    CHECK.about("21", "ArrayIndexOutOfBoundsException: there is no such state");
    for (int n : Puzzles.outside(1)) {
      UNTOUCHED.outOfBounds("least(" + n + ")", x -> x.least(n));
    }
    for (int n : Puzzles.outside(12)) {
      ORDINARY.outOfBounds("least(" + n + ")", x -> x.least(n));
      WITH_TABLE.outOfBounds("least(" + n + ")", x -> x.least(n));
    }
    for (int n : Puzzles.outside(24)) {
      STILL.outOfBounds("least(" + n + ")", x -> x.least(n));
    }
    CosetTables fewer = allOfFour();
    CHECK.same("least(23)", fewer.least(23), 23);
    fewer.choose(0, false);
    fewer.choose(1, false);
    CHECK.outOfBounds("least(12) when fewer are chosen", () -> fewer.least(12));
    CHECK.same("least(11) when fewer are chosen", fewer.least(11), 11);
  }

  private static void leastOnlyTells() {
    CHECK.about("21", "The least number of a state of the CLASS of one");
    // Pieces 0 to 3 at 3 2 1 0; with 0 and 1 turned, at 2 3 0 1.
    STILL.answers("least(23)", x -> x.least(23), 16);
    ORDINARY.answers("least(11)", x -> x.least(11), 11);
  }

  // Promise 22: classes

  private static void fromOneClassToAsManyAsStates() {
    CHECK.about("22", "How many CLASSES there are");
    CHECK.same("classes() with none chosen", new CosetTables(8, 3).classes(), 1);
    CosetTables great = new CosetTables(8, 3);
    for (int p = 0; p < 4; p++) {
      great.choose(p, true);
    }
    CHECK.same("classes() without symmetries", great.classes(), 136080);
    great.symmetry();
    CHECK.same("classes() with one that leaves all", great.classes(), 136080);
    great.turn(0, 6, 7);
    // 6 * 5 * 4 * 3 arrangements have none at 6 or 7; the others go in pairs.
    CHECK.same("classes() with two places turned", great.classes(), (1680 + 360) / 2 * 81);
    great.choose(0, false);
    great.choose(1, false);
    great.choose(2, false);
    CHECK.same("classes() with one chosen", great.classes(), 7 * 3);
    CosetTables two = new CosetTables(2, 1);
    two.choose(0, true);
    two.choose(1, true);
    turned(two, 0, 1);
    CHECK.same("classes() of two places", two.classes(), 2);
  }

  private static void classesAreAsManyAsLeasts() {
    CHECK.about("22", "How many CLASSES there are");
    CosetTables x = Puzzles.full();
    int own = 0;
    for (int n = 0; n < 120; n++) {
      own += x.least(n) == n ? 1 : 0;
    }
    CHECK.same("classes()", x.classes(), own);
    STILL.answers("classes()", y -> y.classes(), 14);
    WITH_TABLE.answers("classes()", y -> y.classes(), 12);
  }

  public static void main(String[] args) {
    symmetriesHaveTheNumbersFromZeroToThree();
    aNewSymmetryLeavesAllPlaces();
    aFifthSymmetryIsRefused();
    aSymmetryLeavesTheTable();
    theFirstAndTheLastPlaceAreTurned();
    onePlaceIsNotTurned();
    noTurnOfASymmetryThatIsNotThere();
    noTurnOfAPlaceThatIsNotThere();
    aTurnLeavesTheTable();
    withNoMovesAndNoneChosenAllAreGood();
    withAllChosenPiecesStayAmongThem();
    eachMoveGoesToAMove();
    asMuchIsAdded();
    asMuchIsAddedAtTheFirstPlaceAndAtTheLast();
    noneIsGoodThatIsNotThere();
    goodOnlyTells();
    withNoneChosenTheLeastIsZero();
    withoutSymmetriesEachIsItsOwn();
    statesGoOneAfterTheOther();
    oneSymmetryIsDoneAgainAndAgain();
    twistsGoAlong();
    whatIsNotGoodTakesNoneTogether();
    noLeastOfAStateThatIsNotThere();
    leastOnlyTells();
    fromOneClassToAsManyAsStates();
    classesAreAsManyAsLeasts();
    CHECK.end();
  }
}
