/** Promises 1 to 5: each sentence that names a boundary case, by a test of its own. */
public final class MoveBoundariesTest {
  private static final Check CHECK = new Check();
  private static final Twins UNTOUCHED = new Twins(CHECK, "untouched", Puzzles::untouched);
  private static final Twins ORDINARY = new Twins(CHECK, "ordinary", Puzzles::ordinary);
  private static final Twins WITH_TABLE =
      new Twins(CHECK, "with a table", Puzzles::ordinaryWithTable);
  private static final Twins FULL = new Twins(CHECK, "full", Puzzles::full);

  // Promise 1: A new object

  private static void hasPlacesAndTwists(int places, int twists, int duePlaces, int dueTwists) {
    CosetTables x = new CosetTables(places, twists);
    String name = "new(" + places + ", " + twists + "): ";
    for (int p = 0; p < duePlaces; p++) {
      CHECK.same(name + "place(" + p + ")", x.place(p), -1);
    }
    for (int p : Puzzles.outside(duePlaces)) {
      CHECK.outOfBounds(name + "place(" + p + ")", () -> x.place(p));
    }
    x.choose(0, true);
    CHECK.same(name + "size() with one chosen", x.size(), (long) duePlaces * dueTwists);
    x.move();
    for (int t = 1; t < dueTwists; t++) {
      CHECK.yes(name + "adds(0, 0, " + t + ")", x.adds(0, 0, t));
    }
    CHECK.illegal(name + "adds(0, 0, T)", () -> x.adds(0, 0, dueTwists));
    x.build(0);
    CHECK.same(name + "file(2)", x.file(2), duePlaces);
    CHECK.same(name + "file(3)", x.file(3), dueTwists);
  }

  private static void placesFromTwoToEight() {
    CHECK.about("1", "places 2 .. 8");
    for (int places = 2; places <= 8; places++) {
      hasPlacesAndTwists(places, 2, places, 2);
    }
  }

  private static void twistsFromOneToThree() {
    CHECK.about("1", "twists T 1 .. 3");
    for (int twists = 1; twists <= 3; twists++) {
      hasPlacesAndTwists(5, twists, 5, twists);
    }
  }

  private static void lessCountsAsTheLeast() {
    CHECK.about("1", "less counts as the least");
    for (int places : new int[] {1, 0, -1, -8, Integer.MIN_VALUE}) {
      hasPlacesAndTwists(places, 2, 2, 2);
    }
    for (int twists : new int[] {0, -1, -3, Integer.MIN_VALUE}) {
      hasPlacesAndTwists(5, twists, 5, 1);
    }
    hasPlacesAndTwists(1, 0, 2, 1);
    hasPlacesAndTwists(Integer.MIN_VALUE, Integer.MAX_VALUE, 2, 3);
  }

  private static void moreCountsAsTheMost() {
    CHECK.about("1", "more as the most");
    for (int places : new int[] {9, 10, 256, Integer.MAX_VALUE}) {
      hasPlacesAndTwists(places, 2, 8, 2);
    }
    for (int twists : new int[] {4, 5, 256, Integer.MAX_VALUE}) {
      hasPlacesAndTwists(5, twists, 5, 3);
    }
    hasPlacesAndTwists(9, 4, 8, 3);
    hasPlacesAndTwists(Integer.MAX_VALUE, Integer.MIN_VALUE, 8, 1);
  }

  private static void atFirstThereAreNoMoves() {
    CHECK.about("1", "No moves");
    UNTOUCHED.outOfBounds("order(0)", x -> x.order(0));
    UNTOUCHED.outOfBounds("apply(0)", x -> x.apply(0));
    UNTOUCHED.outOfBounds("exchange(0, 0, 1)", x -> x.exchange(0, 0, 1));
    UNTOUCHED.outOfBounds("adds(0, 0, 1)", x -> x.adds(0, 0, 1));
    CHECK.same("the first move()", Puzzles.untouched().move(), 0);
  }

  private static void atFirstNoneIsChosen() {
    CHECK.about("1", "none chosen");
    CosetTables x = new CosetTables(8, 3);
    for (int p = 0; p < 8; p++) {
      CHECK.same("place(" + p + ")", x.place(p), -1);
      CHECK.same("twist(" + p + ")", x.twist(p), -1);
    }
    CHECK.same("size()", x.size(), 1);
    CHECK.same("number()", x.number(), 0);
    CHECK.no("choose(0, false)", x.choose(0, false));
    CHECK.yes("choose(0, true)", x.choose(0, true));
  }

  private static void atFirstThereIsNoTable() {
    CHECK.about("1", "no table");
    CosetTables x = new CosetTables(2, 1);
    CHECK.table("a new object", x, false);
    CHECK.same("count(-1)", x.count(-1), -1);
    CHECK.same("packed(2, 0)", x.packed(2, 0), 0);
    CHECK.same("packed(4, 0)", x.packed(4, 0), 0);
    CHECK.same("down()", x.down(), -1);
  }

  private static void atFirstThereAreNoSymmetries() {
    CHECK.about("1", "no symmetries");
    UNTOUCHED.outOfBounds("good(0)", x -> x.good(0));
    UNTOUCHED.outOfBounds("turn(0, 0, 1)", x -> x.turn(0, 0, 1));
    CosetTables x = new CosetTables(4, 2);
    x.choose(2, true);
    CHECK.same("classes()", x.classes(), 8);
    CHECK.same("least(7)", x.least(7), 7);
    CHECK.same("the first symmetry()", x.symmetry(), 0);
  }

  // Promise 2: move

  private static void aNewMoveLeavesAll() {
    CHECK.about("2", "A move that leaves all");
    CosetTables x = new CosetTables(3, 2);
    x.choose(0, true);
    x.choose(2, true);
    for (int m = 0; m < 6; m++) {
      x.move();
      CHECK.same("order(" + m + ") of a new move", x.order(m), 1);
      for (int n = m; n < 24; n += 6) {
        x.set(n);
        x.apply(m);
        CHECK.same("number() after a new move " + m, x.number(), n);
      }
      x.exchange(m, 0, 2);
      x.adds(m, 1, 1);
      CHECK.same("order(" + m + ") of a changed one", x.order(m), 2);
    }
  }

  private static void movesHaveTheNumbersFromZeroToFive() {
    CHECK.about("2", "its number");
    CosetTables x = new CosetTables(2, 1);
    for (int m = 0; m < 6; m++) {
      int next = m;
      CHECK.outOfBounds("order(" + m + ") before", () -> x.order(next));
      CHECK.same("move()", x.move(), m);
      CHECK.same("order(" + m + ")", x.order(m), 1);
    }
  }

  private static void aMoveTakesTheTable() {
    CHECK.about("2", "the table is gone");
    CosetTables x = Puzzles.ring();
    x.symmetry();
    x.set(5);
    for (int m = 1; m < 6; m++) {
      x.build(m % 2);
      CHECK.table("before move() " + m, x, true);
      x.move();
      CHECK.table("after move() " + m, x, false);
    }
    CHECK.same("THE STATE stays", x.number(), 5);
    CHECK.yes("the symmetry stays", x.good(0));
    CHECK.same("the first move stays", x.order(0), 8);
    CosetTables none = Puzzles.untouched();
    none.build(0);
    none.move();
    CHECK.table("after the first move()", none, false);
  }

  private static void aSeventhMoveIsRefused() {
    CHECK.about("2", "-1, doing nothing, when there are 6");
    FULL.answers("move()", x -> x.move(), -1);
    FULL.answers("move(), thrice", x -> x.move() + x.move() + x.move(), -3);
    CosetTables x = Puzzles.full();
    x.exchange(5, 0, 1);
    CHECK.same("a seventh move() without a table", x.move(), -1);
    CHECK.table("after that", x, false);
    CHECK.outOfBounds("order(6)", () -> x.order(6));
  }

  // Promise 3: exchange

  private static void theFirstAndTheLastPlaceAreExchanged() {
    CHECK.about("3", "the goals of two places are exchanged");
    for (int places = 2; places <= 8; places++) {
      CosetTables x = new CosetTables(places, 1);
      int last = places - 1;
      x.choose(0, true);
      x.choose(last, true);
      x.move();
      CHECK.yes("exchange(0, 0, " + last + ")", x.exchange(0, 0, last));
      x.apply(0);
      CHECK.same("place(0)", x.place(0), last);
      CHECK.same("place(" + last + ")", x.place(last), 0);
      CHECK.yes("exchange(0, " + last + ", 0)", x.exchange(0, last, 0));
      CHECK.same("order(0) when exchanged back", x.order(0), 1);
    }
  }

  private static void goalsAreExchangedNotContents() {
    CHECK.about("3", "the goals of two places");
    CosetTables x = new CosetTables(3, 1);
    x.choose(0, true);
    Puzzles.circle(x, 0, 1, 2);
    int[] places = {1, 2, 0};
    for (int place : places) {
      x.apply(0);
      CHECK.same("0 goes to 1, 1 to 2, 2 to 0", x.place(0), place);
    }
  }

  private static void whatIsAddedGoesAlong() {
    CHECK.about("3", "with what is added");
    CosetTables x = new CosetTables(2, 3);
    x.move();
    x.adds(0, 0, 1);
    x.adds(0, 1, 2);
    x.exchange(0, 0, 1);
    x.choose(0, true);
    x.apply(0);
    CHECK.same("twist(0) from place 0", x.twist(0), 2);
    CHECK.same("place(0)", x.place(0), 1);
    CHECK.no("adds(0, 0, 2) is so already", x.adds(0, 0, 2));
    CHECK.no("adds(0, 1, 1) is so already", x.adds(0, 1, 1));
  }

  private static void onePlaceIsNotExchanged() {
    CHECK.about("3", "false when they are one");
    for (int i = 0; i < 4; i++) {
      int q = i;
      ORDINARY.refuses("exchange(0, q, q)", x -> Twins.bit(x.exchange(0, q, q)));
      WITH_TABLE.refuses("exchange(1, q, q)", x -> Twins.bit(x.exchange(1, q, q)));
    }
    FULL.refuses("exchange(5, 4, 4)", x -> Twins.bit(x.exchange(5, 4, 4)));
  }

  private static void anExchangeTakesTheTable() {
    CHECK.about("3", "The table is gone, if it was changed");
    CosetTables x = Puzzles.ordinaryWithTable();
    x.exchange(0, 1, 1);
    CHECK.table("after exchange(0, 1, 1)", x, true);
    x.exchange(1, 0, 3);
    CHECK.table("after exchange(1, 0, 3)", x, false);
    x.exchange(1, 0, 3);
    CHECK.table("when exchanged back", x, false);
    CHECK.same("THE STATE stays", x.number(), 7);
  }

  private static void noExchangeInAMoveThatIsNotThere() {
    CHECK.about("3", "there is no such move");
    for (int m : Puzzles.outside(2)) {
      WITH_TABLE.outOfBounds("exchange(" + m + ", 0, 1)", x -> x.exchange(m, 0, 1));
      WITH_TABLE.outOfBounds("exchange(" + m + ", 1, 1)", x -> x.exchange(m, 1, 1));
    }
    for (int m : Puzzles.outside(6)) {
      FULL.outOfBounds("exchange(" + m + ", 0, 1)", x -> x.exchange(m, 0, 1));
    }
    for (int m : Puzzles.outside(0)) {
      UNTOUCHED.outOfBounds("exchange(" + m + ", 0, 1)", x -> x.exchange(m, 0, 1));
    }
  }

  private static void noExchangeOfAPlaceThatIsNotThere() {
    CHECK.about("3", "or place");
    for (int q : Puzzles.outside(4)) {
      WITH_TABLE.outOfBounds("exchange(0, " + q + ", 1)", x -> x.exchange(0, q, 1));
      WITH_TABLE.outOfBounds("exchange(0, 1, " + q + ")", x -> x.exchange(0, 1, q));
      WITH_TABLE.outOfBounds("exchange(0, " + q + ", the same)", x -> x.exchange(0, q, q));
    }
    CosetTables two = new CosetTables(2, 1);
    two.move();
    CHECK.outOfBounds("exchange(0, 0, 2) of two places", () -> two.exchange(0, 0, 2));
    CosetTables eight = new CosetTables(8, 1);
    eight.move();
    CHECK.outOfBounds("exchange(0, 8, 0) of eight places", () -> eight.exchange(0, 8, 0));
    CHECK.yes("exchange(0, 7, 0) of eight places", eight.exchange(0, 7, 0));
  }

  // Promise 4: adds

  private static void fromNoneToTheLastTwistIsAdded() {
    CHECK.about("4", "0 .. T - 1");
    for (int twists = 1; twists <= 3; twists++) {
      CosetTables x = new CosetTables(2, twists);
      x.choose(1, true);
      x.move();
      for (int t = twists - 1; t > 0; t--) {
        CHECK.yes("adds(0, 1, " + t + ") with T " + twists, x.adds(0, 1, t));
        x.set(twists);
        x.apply(0);
        CHECK.same("twist(1)", x.twist(1), t);
      }
      CHECK.same("adds(0, 1, 0) with T " + twists, Twins.bit(x.adds(0, 1, 0)), twists > 1 ? 1 : 0);
      x.set(twists);
      x.apply(0);
      CHECK.same("twist(1) with none added", x.twist(1), 0);
    }
  }

  private static void twistsGoRound() {
    CHECK.about("Terms", "adds something to its twist there (modulo T)");
    for (int twists = 2; twists <= 3; twists++) {
      CosetTables x = new CosetTables(2, twists);
      x.choose(0, true);
      x.move();
      x.adds(0, 0, twists - 1);
      for (int i = twists - 1; i >= 0; i--) {
        x.apply(0);
        CHECK.same("twist(0) with T " + twists, x.twist(0), i);
      }
    }
  }

  private static void whatIsSoAlreadyIsNotAdded() {
    CHECK.about("4", "false when it is so already");
    ORDINARY.refuses("adds(0, 0, 0)", x -> Twins.bit(x.adds(0, 0, 0)));
    ORDINARY.refuses("adds(0, 1, 2)", x -> Twins.bit(x.adds(0, 1, 2)));
    WITH_TABLE.refuses("adds(1, 3, 0)", x -> Twins.bit(x.adds(1, 3, 0)));
    WITH_TABLE.refuses("adds(0, 1, 2)", x -> Twins.bit(x.adds(0, 1, 2)));
    FULL.refuses("adds(5, 4, 0)", x -> Twins.bit(x.adds(5, 4, 0)));
  }

  private static void addingTakesTheTable() {
    CHECK.about("4", "The table is gone, if it was changed");
    CosetTables x = Puzzles.ordinaryWithTable();
    x.adds(0, 1, 2);
    CHECK.table("after adds(0, 1, 2), as before", x, true);
    CHECK.yes("adds(0, 1, 0)", x.adds(0, 1, 0));
    CHECK.table("after adds(0, 1, 0)", x, false);
    CHECK.yes("adds(0, 1, 2)", x.adds(0, 1, 2));
    CHECK.table("when 2 are added again", x, false);
    CHECK.same("THE STATE stays", x.number(), 7);
  }

  private static void nothingIsAddedInAMoveThatIsNotThere() {
    CHECK.about("4", "there is no such move");
    for (int m : Puzzles.outside(2)) {
      WITH_TABLE.outOfBounds("adds(" + m + ", 0, 1)", x -> x.adds(m, 0, 1));
      WITH_TABLE.outOfBounds("adds(" + m + ", 0, 0)", x -> x.adds(m, 0, 0));
    }
    for (int m : Puzzles.outside(6)) {
      FULL.outOfBounds("adds(" + m + ", 0, 0)", x -> x.adds(m, 0, 0));
    }
    for (int m : Puzzles.outside(0)) {
      UNTOUCHED.outOfBounds("adds(" + m + ", 0, 1)", x -> x.adds(m, 0, 1));
    }
  }

  private static void nothingIsAddedAtAPlaceThatIsNotThere() {
    CHECK.about("4", "or place");
    for (int q : Puzzles.outside(4)) {
      WITH_TABLE.outOfBounds("adds(0, " + q + ", 1)", x -> x.adds(0, q, 1));
      WITH_TABLE.outOfBounds("adds(0, " + q + ", 0)", x -> x.adds(0, q, 0));
    }
    CosetTables eight = new CosetTables(8, 2);
    eight.move();
    CHECK.outOfBounds("adds(0, 8, 1) of eight places", () -> eight.adds(0, 8, 1));
    CHECK.yes("adds(0, 7, 1) of eight places", eight.adds(0, 7, 1));
    CHECK.yes("adds(0, 0, 1) of eight places", eight.adds(0, 0, 1));
  }

  private static void whatCantBeAddedIsRefused() {
    CHECK.about("4", "IllegalArgumentException: it can't be added");
    for (int t : Puzzles.outside(3)) {
      ORDINARY.illegal("adds(0, 0, " + t + ")", x -> x.adds(0, 0, t));
      WITH_TABLE.illegal("adds(1, 3, " + t + ")", x -> x.adds(1, 3, t));
    }
    for (int t : Puzzles.outside(1)) {
      FULL.illegal("adds(5, 4, " + t + ") with T 1", x -> x.adds(5, 4, t));
    }
    CosetTables two = new CosetTables(2, 2);
    two.move();
    CHECK.illegal("adds(0, 0, 2) with T 2", () -> two.adds(0, 0, 2));
    CHECK.illegal("adds(0, 0, -1) with T 2", () -> two.adds(0, 0, -1));
  }

  // Promise 5: order

  private static void anOrderIsAtLeastOne() {
    CHECK.about("Terms", "the least number of times, at least 1, after which all is back");
    CosetTables x = new CosetTables(8, 3);
    x.move();
    CHECK.same("order(0) of a move that leaves all", x.order(0), 1);
    x.exchange(0, 0, 7);
    CHECK.same("order(0) of two places", x.order(0), 2);
    x.exchange(0, 7, 0);
    CHECK.same("order(0) when exchanged back", x.order(0), 1);
  }

  private static void anOrderCountsTwistsToo() {
    CHECK.about("Terms", "(twists, too)");
    for (int twists = 2; twists <= 3; twists++) {
      CosetTables x = new CosetTables(5, twists);
      x.move();
      for (int q = 0; q < 5; q++) {
        x.adds(0, q, 1);
        CHECK.same("order(0) of a twist at " + q + " alone", x.order(0), twists);
        x.adds(0, q, 0);
        CHECK.same("order(0) without it", x.order(0), 1);
      }
      Puzzles.circle(x, 0, 1, 2, 3, 4);
      x.adds(1, 0, 1);
      CHECK.same("order(1) with a twist left over", x.order(1), 5L * twists);
      x.adds(1, 3, twists - 1);
      CHECK.same("order(1) with twists that add up to T", x.order(1), 5);
    }
  }

  private static void theGreatestOrder() {
    CHECK.about("5", "A move's ORDER");
    CosetTables x = new CosetTables(8, 3);
    Puzzles.circle(x, 0, 1, 2, 3, 4);
    x.exchange(0, 5, 6);
    x.exchange(0, 6, 7);
    CHECK.same("order(0) of five and three places", x.order(0), 15);
    x.adds(0, 5, 1);
    CHECK.same("order(0) with one twist left over", x.order(0), 45);
    x.adds(0, 0, 2);
    CHECK.same("order(0) with two twists left over", x.order(0), 45);
    x.adds(0, 5, 0);
    CHECK.same("order(0) with the other twist left over", x.order(0), 15);
  }

  private static void anOrderNeedsNoneChosenAndChangesNothing() {
    CHECK.about("5", "A move's ORDER");
    ORDINARY.answers("order(0)", x -> x.order(0), 9);
    WITH_TABLE.answers("order(1)", x -> x.order(1), 2);
    FULL.answers("order(5)", x -> x.order(5), 1);
    CosetTables none = new CosetTables(6, 1);
    Puzzles.circle(none, 0, 1, 2, 3, 4, 5);
    CHECK.same("order(0) with none chosen", none.order(0), 6);
  }

  private static void noOrderOfAMoveThatIsNotThere() {
    CHECK.about("5", "ArrayIndexOutOfBoundsException: there is no such move");
    for (int m : Puzzles.outside(0)) {
      UNTOUCHED.outOfBounds("order(" + m + ")", x -> x.order(m));
    }
    for (int m : Puzzles.outside(2)) {
      WITH_TABLE.outOfBounds("order(" + m + ")", x -> x.order(m));
    }
    for (int m : Puzzles.outside(6)) {
      FULL.outOfBounds("order(" + m + ")", x -> x.order(m));
    }
  }

  public static void main(String[] args) {
    placesFromTwoToEight();
    twistsFromOneToThree();
    lessCountsAsTheLeast();
    moreCountsAsTheMost();
    atFirstThereAreNoMoves();
    atFirstNoneIsChosen();
    atFirstThereIsNoTable();
    atFirstThereAreNoSymmetries();
    aNewMoveLeavesAll();
    movesHaveTheNumbersFromZeroToFive();
    aMoveTakesTheTable();
    aSeventhMoveIsRefused();
    theFirstAndTheLastPlaceAreExchanged();
    goalsAreExchangedNotContents();
    whatIsAddedGoesAlong();
    onePlaceIsNotExchanged();
    anExchangeTakesTheTable();
    noExchangeInAMoveThatIsNotThere();
    noExchangeOfAPlaceThatIsNotThere();
    fromNoneToTheLastTwistIsAdded();
    twistsGoRound();
    whatIsSoAlreadyIsNotAdded();
    addingTakesTheTable();
    nothingIsAddedInAMoveThatIsNotThere();
    nothingIsAddedAtAPlaceThatIsNotThere();
    whatCantBeAddedIsRefused();
    anOrderIsAtLeastOne();
    anOrderCountsTwistsToo();
    theGreatestOrder();
    anOrderNeedsNoneChosenAndChangesNothing();
    noOrderOfAMoveThatIsNotThere();
    CHECK.end();
  }
}
