/** Each promise of the document: ordinary inputs, the edges that it names, and wrong inputs. */
public final class PromisesTest {
  private static final Check CHECK = new Check();

  private static void same(String what, long got, long want) {
    CHECK.same(what, got, want);
  }

  private static void outOfBounds(String what, Check.Call call) {
    CHECK.outOfBounds(what, call);
  }

  private static void illegal(String what, Check.Call call) {
    CHECK.illegal(what, call);
  }

  private static int circle(CosetTables x, int... places) {
    return Puzzles.circle(x, places);
  }

  private static CosetTables ring() {
    return Puzzles.ring();
  }

  private static void hasTable(String what, CosetTables x, boolean there) {
    CHECK.table(what, x, there);
  }

  private static void promise1() {
    int[][] sizes = {{4, 2, 4, 2}, {2, 1, 2, 1}, {8, 3, 8, 3}, {1, 0, 2, 1}, {9, 4, 8, 3},
        {0, -1, 2, 1}, {Integer.MIN_VALUE, Integer.MIN_VALUE, 2, 1},
        {Integer.MAX_VALUE, Integer.MAX_VALUE, 8, 3}, {-5, 7, 2, 3}, {100, -7, 8, 1}};
    for (int[] row : sizes) {
      CosetTables x = new CosetTables(row[0], row[1]);
      String name = "new(" + row[0] + ", " + row[1] + "): ";
      same(name + "place(last)", x.place(row[2] - 1), -1);
      outOfBounds(name + "place(beyond)", () -> x.place(row[2]));
      outOfBounds(name + "order(0)", () -> x.order(0));
      outOfBounds(name + "good(0)", () -> x.good(0));
      same(name + "size()", x.size(), 1);
      same(name + "number()", x.number(), 0);
      hasTable(name, x, false);
      same(name + "move()", x.move(), 0);
      illegal(name + "adds(0, 0, T)", () -> x.adds(0, 0, row[3]));
      same(name + "adds(0, 0, T - 1)", x.adds(0, 0, row[3] - 1) ? 1 : 0, row[3] > 1 ? 1 : 0);
      x.choose(0, true);
      same(name + "size() with one chosen", x.size(), (long) row[2] * row[3]);
    }
  }

  private static void promise2() {
    CosetTables x = ring();
    x.build(0);
    same("move() is 1", x.move(), 1);
    hasTable("after move()", x, false);
    same("a new move's order", x.order(1), 1);
    x.set(3);
    x.apply(1);
    same("a new move leaves all", x.number(), 3);
    for (int m = 2; m < 6; m++) {
      same("move()", x.move(), m);
    }
    x.build(1);
    same("a seventh move()", x.move(), -1);
    hasTable("after a seventh move()", x, true);
    same("THE STATE is left alone", x.number(), 3);
    outOfBounds("order(6)", () -> x.order(6));
  }

  private static void promise3() {
    CosetTables x = new CosetTables(4, 3);
    x.choose(1, true);
    outOfBounds("exchange without a move", () -> x.exchange(0, 0, 1));
    x.move();
    x.build(0);
    CHECK.no("exchange(0, 2, 2)", x.exchange(0, 2, 2));
    hasTable("after exchange(0, 2, 2)", x, true);
    int[][] wrong = {{-1, 0, 1}, {1, 0, 1}, {0, -1, 1}, {0, 4, 1}, {0, 1, -1}, {0, 1, 4},
        {0, 4, 4}, {Integer.MAX_VALUE, 0, 1}, {0, Integer.MIN_VALUE, Integer.MIN_VALUE}};
    for (int[] row : wrong) {
      outOfBounds("exchange(" + row[0] + ", " + row[1] + ", " + row[2] + ")",
          () -> x.exchange(row[0], row[1], row[2]));
    }
    hasTable("after refused exchanges", x, true);
    x.adds(0, 1, 2);
    x.build(0);
    CHECK.yes("exchange(0, 1, 3)", x.exchange(0, 1, 3));
    hasTable("after exchange(0, 1, 3)", x, false);
    x.apply(0);
    same("place 1 goes to 3", x.place(1), 3);
    same("what is added went along to place 3", x.twist(1), 0);
    x.apply(0);
    same("place 3 goes to 1", x.place(1), 1);
    same("what comes from place 3 is twisted", x.twist(1), 2);
    x.exchange(0, 1, 3);
    x.apply(0);
    same("exchanged back, place 1 stays", x.place(1), 1);
    same("exchanged back, 2 are added again", x.twist(1), 1);
  }

  private static void promise4() {
    CosetTables x = new CosetTables(3, 3);
    x.choose(2, true);
    outOfBounds("adds without a move", () -> x.adds(0, 0, 1));
    x.move();
    x.build(0);
    CHECK.no("adds(0, 2, 0)", x.adds(0, 2, 0));
    hasTable("after adds(0, 2, 0)", x, true);
    for (int twist : new int[] {-1, 3, 100, Integer.MIN_VALUE, Integer.MAX_VALUE}) {
      illegal("adds(0, 2, " + twist + ")", () -> x.adds(0, 2, twist));
    }
    int[][] wrong = {{-1, 0, 1}, {1, 0, 1}, {0, -1, 1}, {0, 3, 1}, {1, 0, 9}, {0, 3, -1}};
    for (int[] row : wrong) {
      outOfBounds("adds(" + row[0] + ", " + row[1] + ", " + row[2] + ")",
          () -> x.adds(row[0], row[1], row[2]));
    }
    hasTable("after refused adds", x, true);
    CHECK.yes("adds(0, 2, 2)", x.adds(0, 2, 2));
    hasTable("after adds(0, 2, 2)", x, false);
    CHECK.no("adds(0, 2, 2) again", x.adds(0, 2, 2));
    x.apply(0);
    same("twist(2)", x.twist(2), 2);
    x.apply(0);
    same("twist(2), modulo 3", x.twist(2), 1);
    CHECK.yes("adds(0, 2, 0)", x.adds(0, 2, 0));
    x.apply(0);
    same("twist(2) is left", x.twist(2), 1);
  }

  private static void promise5() {
    CosetTables x = new CosetTables(8, 3);
    outOfBounds("order(0) without a move", () -> x.order(0));
    circle(x, 0, 1, 2);
    same("order of three in a circle", x.order(0), 3);
    x.adds(0, 1, 1);
    same("order with a twist left over", x.order(0), 9);
    x.adds(0, 2, 2);
    same("order with twists that add up to 3", x.order(0), 3);
    x.adds(0, 7, 1);
    x.adds(0, 6, 1);
    same("order with twists elsewhere", x.order(0), 3);
    circle(x, 0, 1, 2, 3, 4);
    x.exchange(1, 5, 6);
    x.exchange(1, 6, 7);
    same("order of five and three", x.order(1), 15);
    x.adds(1, 5, 1);
    same("the greatest order", x.order(1), 45);
    x.move();
    same("order of a move that leaves all", x.order(2), 1);
    x.adds(2, 0, 2);
    same("order of a twist alone", x.order(2), 3);
    outOfBounds("order(-1)", () -> x.order(-1));
    outOfBounds("order(3)", () -> x.order(3));
    CosetTables two = new CosetTables(3, 2);
    circle(two, 0, 1, 2);
    two.adds(0, 0, 1);
    same("order with T = 2", two.order(0), 6);
  }

  private static void promise6() {
    CosetTables x = ring();
    x.set(5);
    x.build(0);
    CHECK.no("choose(0, true) again", x.choose(0, true));
    CHECK.no("choose(1, false)", x.choose(1, false));
    hasTable("after choices that change nothing", x, true);
    same("THE STATE stays", x.number(), 5);
    CHECK.yes("choose(7, true)", x.choose(7, true));
    hasTable("after choose(7, true)", x, false);
    same("THE STATE is THE GOAL", x.number(), 6);
    x.choose(3, true);
    x.choose(4, true);
    x.set(1000);
    x.build(0);
    CHECK.no("a fifth", x.choose(1, true));
    CHECK.no("one of the four again", x.choose(3, true));
    CHECK.no("one that is not chosen, off", x.choose(1, false));
    hasTable("after a fifth", x, true);
    same("THE STATE stays after a fifth", x.number(), 1000);
    outOfBounds("choose(-1, true)", () -> x.choose(-1, true));
    outOfBounds("choose(8, false)", () -> x.choose(8, false));
    hasTable("after refused choices", x, true);
    CHECK.yes("one of the four off", x.choose(3, false));
    hasTable("after one of the four is off", x, false);
    same("place(3)", x.place(3), -1);
    for (int piece : new int[] {0, 4, 7}) {
      same("home", x.place(piece), piece);
    }
    CHECK.yes("room for another", x.choose(1, true));
  }

  private static void promise7() {
    CosetTables x = new CosetTables(8, 3);
    int[] sizes = {1, 24, 504, 9072, 136080, 136080};
    same("size() with none", x.size(), 1);
    for (int p = 0; p < 5; p++) {
      x.choose(7 - p, true);
      same("size() with " + (p + 1) + " asked for", x.size(), sizes[p + 1]);
    }
    CosetTables small = new CosetTables(2, 1);
    small.choose(0, true);
    small.choose(1, true);
    same("size() of two places", small.size(), 2);
    CosetTables three = new CosetTables(3, 2);
    three.choose(0, true);
    three.choose(1, true);
    three.choose(2, true);
    same("size() of three places", three.size(), 48);
  }

  private static void promises8To11() {
    CosetTables x = new CosetTables(4, 3);
    x.set(0);
    outOfBounds("set(1) with none chosen", () -> x.set(1));
    x.choose(3, true);
    x.choose(1, true);
    same("THE GOAL", x.number(), 5 * 9);
    same("place(1)", x.place(1), 1);
    same("place(3)", x.place(3), 3);
    // Arrangement 7 of 12: piece 1 at place 2, piece 3 at the second of 0, 1, 3.
    x.set(7 * 9 + 5);
    same("place(1) of 68", x.place(1), 2);
    same("place(3) of 68", x.place(3), 1);
    same("twist(1) of 68", x.twist(1), 1);
    same("twist(3) of 68", x.twist(3), 2);
    same("number()", x.number(), 68);
    for (int number : new int[] {-1, 108, Integer.MIN_VALUE, Integer.MAX_VALUE}) {
      outOfBounds("set(" + number + ")", () -> x.set(number));
    }
    same("number() after refused sets", x.number(), 68);
    same("place(0), not chosen", x.place(0), -1);
    same("twist(2), not chosen", x.twist(2), -1);
    for (int piece : new int[] {-1, 4, Integer.MIN_VALUE, Integer.MAX_VALUE}) {
      outOfBounds("place(" + piece + ")", () -> x.place(piece));
      outOfBounds("twist(" + piece + ")", () -> x.twist(piece));
    }
    theLastNumber();
  }

  private static void theLastNumber() {
    CosetTables x = new CosetTables(8, 3);
    for (int piece : new int[] {6, 1, 4, 3}) {
      x.choose(piece, true);
    }
    x.set(136079);
    same("the last state's first piece", x.place(1), 7);
    same("the last state's second piece", x.place(3), 6);
    same("the last state's last piece", x.place(6), 4);
    same("the last state's twist", x.twist(4), 2);
  }

  private static void promise12() {
    CosetTables x = new CosetTables(4, 3);
    circle(x, 0, 1, 2);
    x.adds(0, 0, 1);
    x.adds(0, 2, 2);
    x.choose(0, true);
    outOfBounds("apply(-1)", () -> x.apply(-1));
    outOfBounds("apply(1)", () -> x.apply(1));
    same("a refused apply changes nothing", x.number(), 0);
    int[] places = {1, 2, 0, 1};
    int[] twists = {1, 1, 0, 1};
    x.build(0);
    for (int i = 0; i < places.length; i++) {
      x.apply(0);
      same("place(0) after " + (i + 1), x.place(0), places[i]);
      same("twist(0) after " + (i + 1), x.twist(0), twists[i]);
    }
    hasTable("after apply", x, true);
    x.exchange(0, 0, 3);
    same("THE STATE stays when a move changes", x.number(), 4);
  }

  private static void promises13And14() {
    CosetTables x = ring();
    x.set(5);
    same("value(0) without a table", x.value(0), -2);
    same("build(-1)", x.build(-1), -1);
    same("build(2)", x.build(2), -1);
    hasTable("after refused builds", x, false);
    same("build(0)", x.build(0), 7);
    for (int q = 0; q < 8; q++) {
      same("value(" + q + ") in measure 0", x.value(q), (8 - q) % 8);
    }
    same("build(2) with a table", x.build(2), -1);
    same("value(1) after build(2)", x.value(1), 7);
    same("build(1)", x.build(1), 1);
    same("build(MIN)", x.build(Integer.MIN_VALUE), -1);
    same("value(1) in measure 1", x.value(1), 1);
    same("value(0) in measure 1", x.value(0), 0);
    same("THE STATE stays", x.number(), 5);
    for (int number : new int[] {-1, 8, Integer.MIN_VALUE, Integer.MAX_VALUE}) {
      outOfBounds("value(" + number + ")", () -> x.value(number));
    }
    x.exchange(0, 0, 1);
    outOfBounds("value(8) without a table", () -> x.value(8));
    // Now 0 goes to 2 and 1 stays: 0 -> 2 -> .. -> 7 -> 0.
    same("build(0) with a place apart", x.build(0), 6);
    same("value(1), which can't come home", x.value(1), -1);
    CosetTables none = new CosetTables(5, 2);
    none.choose(3, true);
    same("build(0) without moves", none.build(0), 0);
    same("value of THE GOAL", none.value(6), 0);
    same("value of another", none.value(7), -1);
    none.move();
    same("build(1) with a move that leaves all", none.build(1), 0);
    same("count(-1)", none.count(-1), 9);
  }

  private static void promise15() {
    CosetTables x = ring();
    same("count(0) without a table", x.count(0), -1);
    same("count(-1) without a table", x.count(-1), -1);
    same("count(-5) without a table", x.count(-5), -1);
    x.build(0);
    for (int v = 0; v < 8; v++) {
      same("count(" + v + ")", x.count(v), 1);
    }
    for (int v : new int[] {8, -1, -2, Integer.MIN_VALUE, Integer.MAX_VALUE}) {
      same("count(" + v + ")", x.count(v), 0);
    }
    x.build(1);
    same("count(1) in measure 1", x.count(1), 7);
    x.choose(1, true);
    x.build(1);
    same("count(-1) with two chosen", x.count(-1), 48);
    same("count(0) with two chosen", x.count(0), 1);
    same("count(1) with two chosen", x.count(1), 7);
  }

  private static void promise16() {
    CosetTables x = ring();
    same("packed(2, 0) without a table", x.packed(2, 0), 0);
    illegal("packed(3, 0) without a table", () -> x.packed(3, 0));
    x.build(0);
    // The values 0 7 6 5 4 3 2 1, and modulo 3: 0 1 0 2 1 0 2 1.
    same("packed(4, 0)", x.packed(4, 0), 0x12345670L);
    same("packed(2, 0)", x.packed(2, 0), 0b01_10_00_01_10_00_01_00);
    for (int k : new int[] {1, -1, 2, Integer.MAX_VALUE, Integer.MIN_VALUE, 1 << 27, 1 << 28}) {
      same("packed(2, " + k + ")", x.packed(2, k), 0);
      same("packed(4, " + k + ")", x.packed(4, k), 0);
    }
    for (int bits : new int[] {0, 1, 3, 5, 8, -2, -4, Integer.MIN_VALUE, Integer.MAX_VALUE}) {
      illegal("packed(" + bits + ", 0)", () -> x.packed(bits, 0));
      illegal("packed(" + bits + ", -1)", () -> x.packed(bits, -1));
    }
    x.exchange(0, 0, 1);
    same("packed(4, 0) when the table is gone", x.packed(4, 0), 0);
    same("packed(2, 0) when the table is gone", x.packed(2, 0), 0);
    x.build(0);
    // Place 1 stays alone: the values 0 - 6 5 4 3 2 1.
    same("packed(4, 0) with none", x.packed(4, 0), 0x123456F0L);
    same("packed(2, 0) with none", x.packed(2, 0), 0b01_10_00_01_10_00_11_00);
    greatValuesPacked();
  }

  private static void greatValuesPacked() {
    CosetTables x = Puzzles.longRing();
    same("build(0) of 24 in a circle", x.build(0), 23);
    long first = 0;
    long second = 0;
    for (int n = 0; n < 24; n++) {
      same("value(" + n + ")", x.value(n), Puzzles.longRingValue(n));
      long four = Math.min(14, Puzzles.longRingValue(n));
      first |= n < 16 ? four << (4 * n) : 0;
      second |= n >= 16 ? four << (4 * (n - 16)) : 0;
    }
    same("packed(4, 0), 14 when greater", x.packed(4, 0), first);
    same("packed(4, 1), 0 behind the last", x.packed(4, 1), second);
    same("packed(4, 2)", x.packed(4, 2), 0);
    same("packed(2, 1)", x.packed(2, 1), 0);
  }

  private static void promise17() {
    CosetTables x = new CosetTables(8, 1);
    circle(x, 4, 5, 6);
    circle(x, 0, 1, 2, 3, 4, 5, 6, 7);
    x.choose(0, true);
    x.set(1);
    same("down() without a table", x.down(), -1);
    x.build(0);
    same("value(6)", x.value(6), 2);
    same("value(4)", x.value(4), 4);
    x.set(6);
    same("down() to 4, which is 1 modulo 3 too", x.down(), 1);
    x.set(3);
    same("down() by the second move", x.down(), 17);
    x.set(5);
    same("down() by the first move that will do", x.down(), 1);
    x.set(0);
    same("down() at home", x.down(), -1);
    same("down() does not move", x.number(), 0);
    x.build(1);
    x.set(3);
    same("down() in measure 1", x.down(), 16 + 5);
    x.set(5);
    same("down() in measure 1 from 5", x.down(), 16 + 3);
    CosetTables apart = new CosetTables(4, 1);
    apart.move();
    circle(apart, 0, 1);
    apart.choose(0, true);
    apart.build(0);
    apart.set(2);
    same("down() where home can't be come to", apart.down(), -1);
    apart.set(1);
    same("down() with a move that leaves all before", apart.down(), 17);
    apart.exchange(1, 2, 3);
    same("down() when the table is gone", apart.down(), -1);
    manyTimesDown();
  }

  /** The fewest times may be more than 15: the move's number is then not to be read off. */
  private static void manyTimesDown() {
    CosetTables x = new CosetTables(8, 3);
    circle(x, 0, 1, 2, 3, 4);
    x.exchange(0, 5, 6);
    x.exchange(0, 6, 7);
    x.adds(0, 5, 1);
    x.choose(0, true);
    x.choose(5, true);
    same("build(1) of one circle", x.build(1), 1);
    same("count(1) of one circle", x.count(1), 44);
    x.apply(0);
    same("down() after 1 of 45", x.down(), 44);
    x.apply(0);
    same("down() after 2 of 45", x.down(), 43);
    same("build(0) of one circle", x.build(0), 44);
    same("down() in measure 0", x.down(), 1);
  }

  private static void promises18And19() {
    CosetTables x = ring();
    x.build(0);
    outOfBounds("turn without a symmetry", () -> x.turn(0, 0, 1));
    for (int s = 0; s < 4; s++) {
      same("symmetry()", x.symmetry(), s);
      CHECK.yes("a new symmetry leaves all", x.good(s));
    }
    same("a fifth symmetry()", x.symmetry(), -1);
    same("classes() with symmetries that leave all", x.classes(), 8);
    CHECK.no("turn(1, 3, 3)", x.turn(1, 3, 3));
    CHECK.yes("good(1) as before", x.good(1));
    CHECK.yes("turn(1, 3, 4)", x.turn(1, 3, 4));
    CHECK.no("good(1) now", x.good(1));
    CHECK.yes("good(0) is left alone", x.good(0));
    int[][] wrong = {{-1, 0, 1}, {4, 0, 1}, {1, -1, 4}, {1, 8, 4}, {1, 3, -1}, {1, 3, 8},
        {0, 8, 8}, {Integer.MIN_VALUE, 0, 1}, {Integer.MAX_VALUE, 0, 1}};
    for (int[] row : wrong) {
      outOfBounds("turn(" + row[0] + ", " + row[1] + ", " + row[2] + ")",
          () -> x.turn(row[0], row[1], row[2]));
    }
    CHECK.yes("turn(1, 4, 3), back again", x.turn(1, 4, 3));
    CHECK.yes("good(1) again", x.good(1));
    hasTable("symmetries leave the table", x, true);
  }

  /** Four places in a circle and the same circle backwards; the symmetry reverses the circle. */
  private static CosetTables square(int twists) {
    CosetTables x = new CosetTables(4, twists);
    circle(x, 0, 1, 2, 3);
    circle(x, 3, 2, 1, 0);
    x.symmetry();
    x.turn(0, 1, 3);
    return x;
  }

  private static void promise20() {
    CosetTables x = square(3);
    CHECK.yes("good(0): each of two moves to the other", x.good(0));
    x.choose(1, true);
    CHECK.no("good(0) with 1 chosen and 3 not", x.good(0));
    x.choose(3, true);
    CHECK.yes("good(0) with 1 and 3 chosen", x.good(0));
    x.adds(0, 1, 2);
    CHECK.no("good(0) with a twist in one move", x.good(0));
    x.adds(1, 1, 2);
    CHECK.no("good(0) with the twist at the wrong place", x.good(0));
    x.adds(1, 1, 0);
    x.adds(1, 3, 2);
    CHECK.yes("good(0) with the twist in the other move", x.good(0));
    x.move();
    CHECK.yes("good(0) with a move that leaves all", x.good(0));
    x.exchange(2, 0, 1);
    CHECK.no("good(0) with a move that goes to none", x.good(0));
    outOfBounds("good(-1)", () -> x.good(-1));
    outOfBounds("good(1)", () -> x.good(1));
    CosetTables one = new CosetTables(4, 1);
    circle(one, 0, 1, 2, 3);
    one.symmetry();
    for (int q = 0; q < 3; q++) {
      one.turn(0, q, q + 1);
    }
    CHECK.yes("good(0) of a quarter turn", one.good(0));
    one.choose(0, true);
    CHECK.no("good(0) of a quarter turn with a piece", one.good(0));
  }

  private static void promises21And22() {
    CosetTables x = square(1);
    same("classes() with none chosen", x.classes(), 1);
    same("least(0) with none chosen", x.least(0), 0);
    outOfBounds("least(1) with none chosen", () -> x.least(1));
    x.choose(0, true);
    same("classes() with one chosen", x.classes(), 3);
    same("least(3)", x.least(3), 1);
    same("least(2)", x.least(2), 2);
    x.choose(2, true);
    x.build(0);
    // Piece 0 at 3, piece 2 at 0 (number 9) goes to piece 0 at 1, piece 2 at 0 (number 3).
    same("least(9)", x.least(9), 3);
    same("least(3)", x.least(3), 3);
    outOfBounds("least(-1)", () -> x.least(-1));
    outOfBounds("least(12)", () -> x.least(12));
    same("classes() with two chosen", x.classes(), 7);
    x.symmetry();
    x.turn(1, 0, 2);
    CHECK.yes("good(1)", x.good(1));
    // By the second, piece 0 at 1, piece 2 at 0 becomes piece 2 at 1, piece 0 at 2 (number 7).
    same("least(7) by both", x.least(7), 3);
    // Of 12 states 12, 2, 2 and 4 are left by the four symmetries: 20 / 4 classes.
    same("classes() by both", x.classes(), 5);
    x.adds(0, 0, 0);
    same("classes() when nothing changed", x.classes(), 5);
    x.turn(1, 0, 1);
    same("classes() with one that is not good", x.classes(), 7);
    x.exchange(0, 0, 1);
    same("classes() with none that is good", x.classes(), 12);
    same("least(9) with none that is good", x.least(9), 9);
    same("THE STATE stays", x.number(), 1);
    twistsGoAlong();
  }

  private static void twistsGoAlong() {
    CosetTables x = square(2);
    x.choose(1, true);
    x.choose(3, true);
    // Both at home (arrangement 5), the twists 0 1 and 1 0 are taken into one another.
    same("least(22)", x.least(22), 21);
    same("least(21)", x.least(21), 21);
    same("least(23)", x.least(23), 23);
    // Piece 1 at 3, piece 3 at 1 (arrangement 10), twisted 1 0, goes to itself twisted 0 1.
    same("least(42)", x.least(42), 41);
    same("THE GOAL", x.number(), 20);
  }

  private static void promise23() {
    CosetTables x = ring();
    same("file(0) without a table", x.file(0), -1);
    x.build(1);
    x.build(0);
    int[] bytes = {67, 84, 8, 1, 1, 0, 0x70, 0x56, 0x34, 0x12, 0};
    for (int i = 0; i + 1 < bytes.length; i++) {
      bytes[bytes.length - 1] += bytes[i];
    }
    bytes[bytes.length - 1] %= 251;
    for (int i = 0; i < bytes.length; i++) {
      same("file(" + i + ")", x.file(i), bytes[i]);
    }
    for (int i : new int[] {-1, 11, 12, Integer.MIN_VALUE, Integer.MAX_VALUE}) {
      same("file(" + i + ")", x.file(i), -1);
    }
    CosetTables odd = new CosetTables(5, 3);
    odd.choose(4, true);
    odd.build(1);
    // 15 states, of which THE GOAL (12) alone has a value.
    same("file(4) of an odd number", odd.file(4), 1);
    same("file(5) of an odd number", odd.file(5), 1);
    same("file(12) of an odd number", odd.file(12), 0xF0);
    same("file(13) of an odd number", odd.file(13), 0x0F);
    same("file(14) of an odd number", odd.file(14),
        (67 + 84 + 5 + 3 + 1 + 1 + 6 * 255 + 0xF0 + 0x0F) % 251);
    same("file(15) of an odd number", odd.file(15), -1);
    odd.choose(4, false);
    same("file(0) when the table is gone", odd.file(0), -1);
  }

  public static void main(String[] args) {
    promise1();
    promise2();
    promise3();
    promise4();
    promise5();
    promise6();
    promise7();
    promises8To11();
    promise12();
    promises13And14();
    promise15();
    promise16();
    promise17();
    promises18And19();
    promise20();
    promises21And22();
    promise23();
    CHECK.end();
  }
}
