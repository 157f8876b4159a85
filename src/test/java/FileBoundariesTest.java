/** Promise 23, and the last call: each sentence that names a boundary case, by its own test. */
public final class FileBoundariesTest {
  private static final Check CHECK = new Check();
  private static final Twins UNTOUCHED = new Twins(CHECK, "untouched", Puzzles::untouched);
  private static final Twins NO_TABLE = new Twins(CHECK, "without a table", Puzzles::ordinary);
  private static final Twins WITH_TABLE =
      new Twins(CHECK, "with a table", Puzzles::ordinaryWithTable);

  private static CosetTables built(int places, int twists, int chosen, int measure) {
    CosetTables x = new CosetTables(places, twists);
    for (int p = 0; p < chosen; p++) {
      x.choose(p, true);
    }
    x.build(measure);
    return x;
  }

  private static void bytes(String what, CosetTables x, int... due) {
    for (int i = 0; i < due.length; i++) {
      CHECK.same(what + ": file(" + i + ")", x.file(i), due[i]);
    }
  }

  private static void theSmallestFile() {
    CHECK.about("23", "67, 84, then places, T, how many are chosen, the measure");
    CosetTables x = built(2, 1, 0, 0);
    bytes("of one state", x, 67, 84, 2, 1, 0, 0, 0, 67 + 84 + 2 + 1, -1);
    CosetTables clamped = built(-7, 0, 0, 1);
    bytes("of one state, measure 1", clamped, 67, 84, 2, 1, 0, 1, 0, 67 + 84 + 2 + 1 + 1, -1);
  }

  private static void theGreatestFile() {
    CHECK.about("23", "67, 84, then places, T, how many are chosen, the measure");
    CosetTables x = built(8, 3, 4, 1);
    bytes("of 136080 states", x, 67, 84, 8, 3, 4, 1, 0xF0, 0xFF);
    CHECK.same("file(68045), the last of the values", x.file(68045), 0xFF);
    long sum = 67 + 84 + 8 + 3 + 4 + 1 + 0xF0 + 68039L * 0xFF;
    CHECK.same("file(68046)", x.file(68046), sum % 251);
    CHECK.same("file(68047)", x.file(68047), -1);
  }

  private static void fromNoneToFourAreTold() {
    CHECK.about("23", "how many are chosen");
    for (int chosen = 0; chosen <= 4; chosen++) {
      for (int measure = 0; measure <= 1; measure++) {
        CosetTables x = built(5, 1, chosen, measure);
        CHECK.same("file(4)", x.file(4), chosen);
        CHECK.same("file(5)", x.file(5), measure);
      }
    }
  }

  private static void theFirstOfTwoIsLower() {
    CHECK.about("23", "two a byte (the first one's lower)");
    CosetTables x = Puzzles.ring();
    x.build(0);
    // The values 0 7 6 5 4 3 2 1.
    bytes("of a ring", x, 67, 84, 8, 1, 1, 0, 0x70, 0x56, 0x34, 0x12);
    CHECK.same("file(10), the sum", x.file(10), (160 + 1 + 0x70 + 0x56 + 0x34 + 0x12) % 251);
    CHECK.same("file(11)", x.file(11), -1);
  }

  private static void valuesAreAsPacked() {
    CHECK.about("23", "the values with 4 bits as packed");
    CosetTables x = Puzzles.longRing();
    x.build(0);
    for (int i = 0; i < 12; i++) {
      CHECK.same("file(" + (6 + i) + ")", x.file(6 + i), x.packed(4, i / 8) >>> 8 * (i % 8) & 255);
    }
    // The values of 0 to 3 are 0, 16, 8, 23: those above 14 count as 14.
    CHECK.same("file(6)", x.file(6), 0xE0);
    CHECK.same("file(7)", x.file(7), 0xE8);
  }

  private static void anOddNumberHasOneByteMore() {
    CHECK.about("23", "one more when their number is odd, its upper half 0");
    bytes("of 3 states", built(3, 1, 1, 0), 67, 84, 3, 1, 1, 0, 0xF0, 0x0F,
        (67 + 84 + 5 + 0xF0 + 0x0F) % 251, -1);
    bytes("of 15 states", built(5, 3, 1, 1), 67, 84, 5, 3, 1, 1, 0xF0, 0xFF, 0xFF, 0xFF, 0xFF,
        0xFF, 0xFF, 0x0F, (67 + 84 + 10 + 0xF0 + 6 * 0xFF + 0x0F) % 251, -1);
  }

  private static void anEvenNumberHasNone() {
    CHECK.about("23", "one more when their number is odd");
    bytes("of 2 states", built(2, 1, 1, 0), 67, 84, 2, 1, 1, 0, 0xF0,
        (67 + 84 + 4 + 0xF0) % 251, -1);
    bytes("of 4 states", built(4, 1, 1, 1), 67, 84, 4, 1, 1, 1, 0xF0, 0xFF,
        (67 + 84 + 7 + 0xF0 + 0xFF) % 251, -1);
  }

  private static void sumIs(String what, CosetTables x, int last, long dueSum, int dueByte) {
    long sum = 0;
    for (int i = 0; i < last; i++) {
      sum += x.file(i);
    }
    CHECK.same("the sum " + what, sum, dueSum);
    CHECK.same("file(" + last + ") " + what, x.file(last), dueByte);
    CHECK.same("file(" + (last + 1) + ") " + what, x.file(last + 1), -1);
  }

  private static void theSumGoesRound() {
    CHECK.about("23", "then the sum of all bytes before, modulo 251");
    sumIs("below 251", built(2, 1, 0, 0), 7, 154, 154);
    CosetTables most = new CosetTables(5, 3);
    Puzzles.circle(most, 0, 1, 2, 3, 4);
    most.choose(4, true);
    most.build(0);
    sumIs("one below a multiple", most, 14, 6 * 251 - 1, 250);
    CosetTables none = new CosetTables(6, 3);
    Puzzles.circle(none, 0, 1, 2);
    none.adds(0, 0, 1);
    none.choose(0, true);
    none.build(0);
    sumIs("that is a multiple", none, 15, 7 * 251, 0);
    CosetTables one = new CosetTables(5, 2);
    Puzzles.circle(one, 0, 1);
    one.adds(0, 0, 1);
    one.choose(0, true);
    one.build(0);
    sumIs("one above a multiple", one, 11, 4 * 251 + 1, 1);
  }

  private static void beforeTheFirstAndBehindTheLastIsNone() {
    CHECK.about("23", "-1 when there is none");
    // Twelve states: bytes 0 to 12.
    for (int i : Puzzles.outside(13)) {
      WITH_TABLE.answers("file(" + i + ")", x -> x.file(i), -1);
    }
    WITH_TABLE.answers("file(0)", x -> x.file(0), 67);
    WITH_TABLE.answers("file(12)", x -> x.file(12) >= 0 ? 1 : 0, 1);
  }

  private static void withoutATableThereIsNoFile() {
    CHECK.about("23", "or no table");
    for (int i : new int[] {0, 5, 6, 7, 12, 13, -1, Integer.MIN_VALUE, Integer.MAX_VALUE}) {
      UNTOUCHED.answers("file(" + i + ")", x -> x.file(i), -1);
      NO_TABLE.answers("file(" + i + ")", x -> x.file(i), -1);
    }
    CosetTables gone = Puzzles.ordinaryWithTable();
    gone.adds(1, 0, 1);
    for (int i = 0; i < 14; i++) {
      CHECK.same("file(" + i + ") when it is gone", gone.file(i), -1);
    }
  }

  /** A ring with a table and a symmetry after 511 calls, 500 of which were apply(0). */
  private static CosetTables afterAllButOneCall() {
    CosetTables x = Puzzles.ring();
    x.build(0);
    x.symmetry();
    for (int i = 0; i < 500; i++) {
      x.apply(0);
    }
    return x;
  }

  private static void theLastCallIsAnswered() {
    CHECK.about("What it is", "An object is used for at most 512 calls");
    CHECK.same("number() as the 512th call", afterAllButOneCall().number(), 500 % 8);
    CHECK.same("place(0) as the 512th call", afterAllButOneCall().place(0), 500 % 8);
    CHECK.same("move() as the 512th call", afterAllButOneCall().move(), 1);
    CHECK.same("order(0) as the 512th call", afterAllButOneCall().order(0), 8);
    CHECK.same("build(1) as the 512th call", afterAllButOneCall().build(1), 1);
    CHECK.same("value(1) as the 512th call", afterAllButOneCall().value(1), 7);
    CHECK.same("count(7) as the 512th call", afterAllButOneCall().count(7), 1);
    CHECK.same("packed(4, 0) as the 512th call", afterAllButOneCall().packed(4, 0), 0x12345670L);
    CHECK.same("down() as the 512th call", afterAllButOneCall().down(), 1);
    CHECK.same("symmetry() as the 512th call", afterAllButOneCall().symmetry(), 1);
    CHECK.same("classes() as the 512th call", afterAllButOneCall().classes(), 8);
    CHECK.same("file(5) as the 512th call", afterAllButOneCall().file(5), 0);
    CHECK.outOfBounds("set(8) as the 512th call", () -> afterAllButOneCall().set(8));
    CHECK.yes("choose(1, true) as the 512th call", afterAllButOneCall().choose(1, true));
  }

  public static void main(String[] args) {
    theSmallestFile();
    theGreatestFile();
    fromNoneToFourAreTold();
    theFirstOfTwoIsLower();
    valuesAreAsPacked();
    anOddNumberHasOneByteMore();
    anEvenNumberHasNone();
    theSumGoesRound();
    beforeTheFirstAndBehindTheLastIsNone();
    withoutATableThereIsNoFile();
    theLastCallIsAnswered();
    CHECK.end();
  }
}
