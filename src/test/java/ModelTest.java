import java.util.Random;

/** Runs of calls drawn with fixed seeds, each answered by the class and by the model alike. */
public final class ModelTest {
  private static final int RUNS = 2400;
  private static final int ROUNDS = 120;
  /** What an object answers behind its 512th call is free. */
  private static final int MOST_CALLS = 512;
  private static final int OUT_OF_BOUNDS = 1;
  private static final int ILLEGAL = 2;

  private final Check check;
  private final Random random;
  private final String name;
  private final CosetTables real;
  private final Model model;
  private final int places;
  private final int twists;
  private int calls;

  private ModelTest(Check check, long seed, int places, int twists) {
    this.check = check;
    random = new Random(seed);
    name = "seed " + seed + ": ";
    this.places = places;
    this.twists = twists;
    real = new CosetTables(places, twists);
    model = new Model(places, twists);
  }

  interface Answer {
    long get();
  }

  private void both(String call, Answer got, Answer want) {
    if (calls >= MOST_CALLS) {
      return;
    }
    calls++;
    long[] a = outcome(got);
    long[] b = outcome(want);
    check.same(name + call + " throws", a[0], b[0]);
    check.same(name + call, a[1], b[1]);
  }

  private static long[] outcome(Answer answer) {
    try {
      return new long[] {0, answer.get()};
    } catch (ArrayIndexOutOfBoundsException e) {
      return new long[] {OUT_OF_BOUNDS, 0};
    } catch (IllegalArgumentException e) {
      return new long[] {ILLEGAL, 0};
    }
  }

  private static long bit(boolean answer) {
    return answer ? 1 : 0;
  }

  /** Mostly one that is there, sometimes one beyond, now and then a wild one. */
  private int index(int bound) {
    int kind = random.nextInt(40);
    if (kind == 0) {
      return random.nextBoolean() ? -1 : bound;
    }
    if (kind == 1) {
      return random.nextInt();
    }
    return bound <= 0 ? 0 : random.nextInt(bound);
  }

  private void change() {
    int m = index(model.moves.size());
    int s = index(model.symmetries.size());
    int a = index(places);
    int b = index(places);
    int t = index(twists);
    boolean on = random.nextInt(4) != 0;
    switch (random.nextInt(12)) {
      case 0 -> both("move()", () -> real.move(), () -> model.move());
      case 1, 2, 3, 4 -> both("exchange(" + m + ", " + a + ", " + b + ")",
          () -> bit(real.exchange(m, a, b)), () -> bit(model.exchange(m, a, b)));
      case 5, 6 -> both("adds(" + m + ", " + a + ", " + t + ")",
          () -> bit(real.adds(m, a, t)), () -> bit(model.adds(m, a, t)));
      case 7, 8 -> both("choose(" + a + ", " + on + ")",
          () -> bit(real.choose(a, on)), () -> bit(model.choose(a, on)));
      case 9 -> both("symmetry()", () -> real.symmetry(), () -> model.symmetry());
      default -> both("turn(" + s + ", " + a + ", " + b + ")",
          () -> bit(real.turn(s, a, b)), () -> bit(model.turn(s, a, b)));
    }
  }

  private void ask() {
    int n = index(model.size());
    int m = index(model.moves.size());
    int s = index(model.symmetries.size());
    int p = index(places);
    switch (random.nextInt(10)) {
      case 0 -> both("set(" + n + ")", () -> { real.set(n); return 0; },
          () -> { model.set(n); return 0; });
      case 1, 2 -> both("apply(" + m + ")", () -> { real.apply(m); return 0; },
          () -> { model.apply(m); return 0; });
      case 3 -> both("order(" + m + ")", () -> real.order(m), () -> model.order(m));
      case 4 -> both("place(" + p + ")", () -> real.place(p), () -> model.place(p));
      case 5 -> both("twist(" + p + ")", () -> real.twist(p), () -> model.twist(p));
      case 6 -> both("good(" + s + ")", () -> bit(real.good(s)), () -> bit(model.good(s)));
      case 7 -> both("least(" + n + ")", () -> real.least(n), () -> model.least(n));
      case 8 -> both("classes()", () -> real.classes(), () -> model.classes());
      default -> askTable(n);
    }
  }

  private void askTable(int n) {
    int measure = index(2);
    int value = random.nextInt(8) - 2;
    int bits = random.nextInt(12) == 0 ? index(9) : 2 + 2 * random.nextInt(2);
    int k = index(model.size() * bits / 64 + 2);
    int i = index(model.size() / 2 + 9);
    both("build(" + measure + ")", () -> real.build(measure), () -> model.build(measure));
    both("value(" + n + ")", () -> real.value(n), () -> model.value(n));
    both("count(" + value + ")", () -> real.count(value), () -> model.count(value));
    both("packed(" + bits + ", " + k + ")",
        () -> real.packed(bits, k), () -> model.packed(bits, k));
    both("file(" + i + ")", () -> real.file(i), () -> model.file(i));
    for (int walk = 0; walk < 3; walk++) {
      int at = index(model.size());
      both("set(" + at + ")", () -> { real.set(at); return 0; },
          () -> { model.set(at); return 0; });
      both("down()", () -> real.down(), () -> model.down());
    }
  }

  private void glance() {
    switch (random.nextInt(5)) {
      case 0 -> both("size()", () -> real.size(), () -> model.size());
      case 1 -> both("value(0)", () -> real.value(0), () -> model.value(0));
      case 2 -> both("count(-1)", () -> real.count(-1), () -> model.count(-1));
      case 3 -> both("down()", () -> real.down(), () -> model.down());
      default -> both("number()", () -> real.number(), () -> model.number());
    }
  }

  /** Words from all over the table, some values, and the sum of all. */
  private void wholeTable() {
    int words = (model.size() + 15) / 16;
    for (int measure = 0; measure < 2; measure++) {
      int wanted = measure;
      both("build(" + measure + ")", () -> real.build(wanted), () -> model.build(wanted));
      int last = 6 + (model.size() + 1) / 2;
      both("file(last)", () -> real.file(last), () -> model.file(last));
      both("file(last + 1)", () -> real.file(last + 1), () -> model.file(last + 1));
      for (int i = 0; i < 60; i++) {
        int k = (int) ((long) i * words / 60);
        int n = random.nextInt(model.size());
        both("packed(4, " + k + ")", () -> real.packed(4, k), () -> model.packed(4, k));
        both("value(" + n + ")", () -> real.value(n), () -> model.value(n));
      }
    }
  }

  private static void draw(Check check, long seed) {
    Random sizes = new Random(seed * 7919);
    int places = 2 + sizes.nextInt(4);
    int twists = 1 + sizes.nextInt(places > 4 ? 2 : 3);
    ModelTest test = new ModelTest(check, seed, places, twists);
    int rounds = seed % 10 == 0 ? ROUNDS / 4 : ROUNDS;
    for (int c = 0; c < rounds && !check.isWrong(); c++) {
      if (test.random.nextInt(3) == 0) {
        test.ask();
      } else {
        test.change();
      }
      test.glance();
    }
    if (seed % 10 == 0) {
      test.wholeTable();
    }
  }

  /** The largest sizes: few moves, so that the model ends soon. */
  private static void drawLarge(Check check, long seed) {
    ModelTest test = new ModelTest(check, seed, 8, 3);
    for (int m = 0; m < 2 + seed % 2; m++) {
      test.both("move()", () -> test.real.move(), () -> test.model.move());
    }
    for (int c = 0; c < 60; c++) {
      int m = test.index(test.model.moves.size());
      int a = test.index(8);
      int b = test.index(8);
      int t = test.index(3);
      test.both("exchange", () -> bit(test.real.exchange(m, a, b)),
          () -> bit(test.model.exchange(m, a, b)));
      test.both("adds", () -> bit(test.real.adds(m, b, t)),
          () -> bit(test.model.adds(m, b, t)));
    }
    for (int p = (int) (seed % 4); p < 8; p++) {
      int piece = p;
      test.both("choose", () -> bit(test.real.choose(piece, true)),
          () -> bit(test.model.choose(piece, true)));
    }
    test.wholeTable();
  }

  public static void main(String[] args) {
    Check check = new Check();
    for (long seed = 1; seed <= RUNS && !check.isWrong(); seed++) {
      draw(check, seed);
    }
    for (long seed = 1; seed <= 4 && !check.isWrong(); seed++) {
      drawLarge(check, seed);
    }
    check.end();
  }
}
