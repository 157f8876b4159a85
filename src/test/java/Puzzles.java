/** Objects that several tests begin with, and numbers that are not taken. */
final class Puzzles {
  private Puzzles() {}

  /** A move that takes each of these places to the next of them, and the last to the first. */
  static int circle(CosetTables x, int... places) {
    int move = x.move();
    for (int i = 0; i + 1 < places.length; i++) {
      x.exchange(move, places[i], places[i + 1]);
    }
    return move;
  }

  /** Eight places in one circle, one piece chosen: at place q its value is 8 - q (0 at home). */
  static CosetTables ring() {
    CosetTables x = new CosetTables(8, 1);
    circle(x, 0, 1, 2, 3, 4, 5, 6, 7);
    x.choose(0, true);
    return x;
  }

  /**
   * One circle of eight places that leaves a twist of 1 over, one piece chosen: the state of
   * number 3 q + t comes home after 24 - (q + 8 t) moves, so all values from 0 to 23 are there.
   */
  static CosetTables longRing() {
    CosetTables x = new CosetTables(8, 3);
    circle(x, 0, 1, 2, 3, 4, 5, 6, 7);
    x.adds(0, 7, 1);
    x.choose(0, true);
    return x;
  }

  static int longRingValue(int number) {
    return (24 - (number / 3 + 8 * (number % 3))) % 24;
  }

  /** Four places, T = 3, two moves, a piece that is not at home, a symmetry; no table. */
  static CosetTables ordinary() {
    CosetTables x = new CosetTables(4, 3);
    circle(x, 0, 1, 2);
    circle(x, 2, 3);
    x.adds(0, 1, 2);
    x.choose(1, true);
    x.symmetry();
    x.turn(0, 0, 2);
    x.set(7);
    return x;
  }

  static CosetTables ordinaryWithTable() {
    CosetTables x = ordinary();
    x.build(0);
    return x;
  }

  static CosetTables ordinaryWithOtherTable() {
    CosetTables x = ordinary();
    x.build(1);
    return x;
  }

  /** As many moves, symmetries and chosen pieces as there can be, and a table. */
  static CosetTables full() {
    CosetTables x = new CosetTables(5, 1);
    for (int m = 0; m < 5; m++) {
      circle(x, m, (m + 1) % 5);
    }
    x.move();
    for (int s = 0; s < 4; s++) {
      x.symmetry();
      x.turn(s, s, 4 - s);
    }
    for (int p = 0; p < 4; p++) {
      x.choose(p, true);
    }
    x.set(77);
    x.build(1);
    return x;
  }

  static CosetTables untouched() {
    return new CosetTables(3, 2);
  }

  /** What is beside 0 .. bound - 1: one below, one above, and far off. */
  static int[] outside(int bound) {
    return new int[] {-1, bound, -2, bound + 1, Integer.MIN_VALUE, Integer.MAX_VALUE};
  }
}
