import java.util.Random;
import java.util.TreeSet;

/**
 * What follows from the document's terms for any puzzle, looked at on drawn ones of all sizes. Their
 * moves and chosen pieces are made to fit a symmetry, so that it is good though it leaves not all:
 * then a value is that of the whole class, a walk down is as long as the value, counts add up.
 */
public final class LawsTest {
  private static final int RUNS = 200;
  private static final int MOST_CALLS = 512;
  private static final Check CHECK = new Check();

  private final Random random;
  private final String name;
  private final int places;
  private final int twists;
  private final int[] symmetry;
  private final int symmetryOrder;
  private final CosetTables made;
  private final Model model;
  private int moves;
  private int calls;

  private LawsTest(long seed) {
    random = new Random(seed);
    name = "seed " + seed + ": ";
    places = 2 + random.nextInt(7);
    twists = 1 + random.nextInt(3);
    made = new CosetTables(places, twists);
    model = new Model(places, twists);
    symmetryOrder = places > 2 && random.nextInt(3) == 0 ? 3 : 2;
    symmetry = new int[places];
    int circles = 1 + random.nextInt(places / symmetryOrder);
    for (int q = 0; q < places; q++) {
      int first = q - q % symmetryOrder;
      boolean moved = q < circles * symmetryOrder;
      symmetry[q] = moved ? first + (q + 1 - first) % symmetryOrder : q;
    }
  }

  /** The object, counting its calls: what it answers behind the 512th is free. */
  private CosetTables x() {
    calls++;
    if (calls > MOST_CALLS) {
      throw new IllegalStateException(name + "too many calls in this test");
    }
    return made;
  }

  private boolean hasRoom(int more) {
    return calls + more <= MOST_CALLS;
  }

  private int image(int place, int times) {
    int at = place;
    for (int i = 0; i < times; i++) {
      at = symmetry[at];
    }
    return at;
  }

  /** The same exchanges at the places that the symmetry takes them to make the image of a move. */
  private void addMoves() {
    int[][] exchanges = new int[1 + random.nextInt(4)][];
    for (int i = 0; i < exchanges.length; i++) {
      exchanges[i] = new int[] {random.nextInt(places), random.nextInt(places)};
    }
    int twisted = random.nextInt(places);
    int twist = random.nextInt(twists);
    for (int times = 0; times < symmetryOrder; times++) {
      int move = x().move();
      model.move();
      for (int[] pair : exchanges) {
        x().exchange(move, image(pair[0], times), image(pair[1], times));
        model.exchange(move, image(pair[0], times), image(pair[1], times));
      }
      x().adds(move, image(twisted, times), twist);
      model.adds(move, image(twisted, times), twist);
      moves++;
    }
  }

  /** With each piece all are chosen to which the symmetry takes it, if there is room for them. */
  private void choosePieces() {
    TreeSet<Integer> wanted = new TreeSet<>();
    for (int i = 0; i < 6; i++) {
      TreeSet<Integer> more = new TreeSet<>(wanted);
      int piece = random.nextInt(places);
      for (int times = 0; times < symmetryOrder; times++) {
        more.add(image(piece, times));
      }
      wanted = more.size() <= 4 ? more : wanted;
    }
    for (int piece : wanted) {
      CHECK.yes(name + "choose(" + piece + ", true)", x().choose(piece, true));
      model.choose(piece, true);
    }
  }

  private void addSymmetry() {
    x().symmetry();
    model.symmetry();
    // Exchanges along a circle, one after the other, take each of its places to the next.
    for (int q = 0; q < places; q++) {
      if (symmetry[q] == q + 1) {
        x().turn(0, q, q + 1);
        model.turn(0, q, q + 1);
      }
    }
    CHECK.yes(name + "good(0)", x().good(0));
    CHECK.yes(name + "the model's good(0)", model.good(0));
    CHECK.same(name + "classes()", x().classes(), model.classes());
  }

  /** All states have one value or none, and none is left out between 0 and the greatest. */
  private void countsAddUp(int measure) {
    int greatest = x().build(measure);
    if (!hasRoom(greatest + 250)) {
      return;
    }
    long sum = x().count(-1);
    for (int value = 0; value <= greatest; value++) {
      int many = x().count(value);
      CHECK.yes(name + "count(" + value + ") is not 0", many > 0);
      sum += many;
    }
    CHECK.same(name + "all counts", sum, x().size());
    CHECK.same(name + "count(greatest + 1)", x().count(greatest + 1), 0);
  }

  private void classesKeepValues(int states) {
    int size = x().size();
    for (int i = 0; i < states; i++) {
      int n = random.nextInt(size);
      int low = x().least(n);
      CHECK.yes(name + "least(" + n + ") <= " + n, low <= n);
      CHECK.same(name + "least(least(" + n + "))", x().least(low), low);
      CHECK.same(name + "value(least(" + n + "))", x().value(low), x().value(n));
    }
  }

  private void numbersGoBothWays(int states) {
    int size = x().size();
    for (int i = 0; i < states; i++) {
      int n = random.nextInt(size);
      x().set(n);
      CHECK.same(name + "set(" + n + "), number()", x().number(), n);
    }
  }

  private void ordersLeadBack() {
    int n = random.nextInt(x().size());
    x().set(n);
    for (int m = 0; m < moves; m++) {
      int order = x().order(m);
      CHECK.same(name + "order(" + m + ")", order, model.order(m));
      for (int i = 0; i < order && hasRoom(200); i++) {
        x().apply(m);
      }
    }
    if (hasRoom(200)) {
      CHECK.same(name + "number() after as many moves as orders", x().number(), n);
    }
  }

  private boolean hasLongMove() {
    for (int m = 0; m < moves; m++) {
      if (model.order(m) > 16) {
        return true;
      }
    }
    return false;
  }

  /** In measure 1 no step changes a value by more than 1, so what is left modulo 3 leads home. */
  private void walksDown(int walks) {
    // With more than 15 times a step's move can't be read off.
    if (hasLongMove()) {
      return;
    }
    x().build(1);
    int size = x().size();
    for (int i = 0; i < walks; i++) {
      int n = random.nextInt(size);
      int value = x().value(n);
      if (!hasRoom(2 + value * 18)) {
        return;
      }
      x().set(n);
      for (int steps = 0; steps < value; steps++) {
        int step = x().down();
        for (int times = 0; times < step % 16; times++) {
          x().apply(step / 16);
        }
        CHECK.same(name + "a step down from " + n, x().value(x().number()), value - steps - 1);
      }
      CHECK.same(name + "down() at the end", x().down(), -1);
    }
  }

  private static void draw(long seed) {
    LawsTest test = new LawsTest(seed);
    test.addMoves();
    if (seed % 2 == 0) {
      test.addMoves();
    }
    test.choosePieces();
    test.addSymmetry();
    test.countsAddUp(0);
    test.classesKeepValues(15);
    test.countsAddUp(1);
    test.classesKeepValues(15);
    test.numbersGoBothWays(15);
    test.ordersLeadBack();
    test.walksDown(8);
  }

  public static void main(String[] args) {
    for (long seed = 1; seed <= RUNS && !CHECK.isWrong(); seed++) {
      draw(seed);
    }
    CHECK.end();
  }
}
