import java.util.ArrayList;
import java.util.List;
import java.util.function.LongSupplier;

/**
 * Of two objects made alike one gets a call that must change nothing; then both are asked for all
 * that can be asked, and must answer alike.
 */
final class Twins {
  /**
   * What an object answers behind its 512th call is free: with so many samples, and no more states
   * than this, some 360 calls ask for all.
   */
  private static final int SAMPLES = 12;
  private static final int MOST_STATES = 120;

  interface Recipe {
    CosetTables make();
  }

  interface Call {
    void on(CosetTables x);
  }

  interface Question {
    long on(CosetTables x);
  }

  private final Check check;
  private final String name;
  private final Recipe recipe;
  private final List<String> due;

  Twins(Check check, String name, Recipe recipe) {
    this.check = check;
    this.name = name;
    this.recipe = recipe;
    due = allAnswers(recipe.make());
  }

  void answers(String what, Question question, long want) {
    CosetTables x = recipe.make();
    check.same(name + ": " + what, question.on(x), want);
    unchanged(what, x);
  }

  void refuses(String what, Question question) {
    answers(what, question, 0);
  }

  void outOfBounds(String what, Call call) {
    CosetTables x = recipe.make();
    check.outOfBounds(name + ": " + what, () -> call.on(x));
    unchanged(what, x);
  }

  void illegal(String what, Call call) {
    CosetTables x = recipe.make();
    check.illegal(name + ": " + what, () -> call.on(x));
    unchanged(what, x);
  }

  private void unchanged(String what, CosetTables x) {
    List<String> got = allAnswers(x);
    int differ = 0;
    String first = "";
    for (int i = 0; i < due.size(); i++) {
      if (i >= got.size() || !got.get(i).equals(due.get(i))) {
        differ++;
        first = differ == 1 ? due.get(i) : first;
      }
    }
    check.same(name + ": how much is not as before " + what + " (" + first + ")", differ, 0);
  }

  static long bit(boolean answer) {
    return answer ? 1 : 0;
  }

  /** Leaves THE STATE, the moves and the symmetries changed: x is of no use any more. */
  private static List<String> allAnswers(CosetTables x) {
    List<String> all = new ArrayList<>();
    ask(all, "size()", () -> x.size());
    ask(all, "number()", () -> x.number());
    ask(all, "down()", () -> x.down());
    ask(all, "classes()", () -> x.classes());
    for (int i = 0; i <= 8; i++) {
      int p = i;
      ask(all, "place(" + p + ")", () -> x.place(p));
      ask(all, "twist(" + p + ")", () -> x.twist(p));
    }
    for (int i = 0; i <= 6; i++) {
      int m = i;
      ask(all, "order(" + m + ")", () -> x.order(m));
    }
    for (int i = 0; i <= 4; i++) {
      int s = i;
      ask(all, "good(" + s + ")", () -> bit(x.good(s)));
    }
    askTable(all, x);
    askMoves(all, x);
    ask(all, "move()", () -> x.move());
    ask(all, "symmetry()", () -> x.symmetry());
    return all;
  }

  private static void askTable(List<String> all, CosetTables x) {
    int size = Math.min(MOST_STATES, x.size());
    for (int i = 0; i < 2 * SAMPLES; i++) {
      int n = i * size / (2 * SAMPLES);
      ask(all, "value(" + n + ")", () -> x.value(n));
      ask(all, "least(" + n + ")", () -> x.least(n));
    }
    for (int i = -2; i < 10; i++) {
      int v = i;
      ask(all, "count(" + v + ")", () -> x.count(v));
    }
    for (int i = 0; i <= size / 16; i++) {
      int k = i;
      ask(all, "packed(2, " + k + ")", () -> x.packed(2, k));
      ask(all, "packed(4, " + k + ")", () -> x.packed(4, k));
    }
    for (int i = 0; i < 7; i++) {
      int early = i;
      int late = size / 2 + 2 + i;
      ask(all, "file(" + early + ")", () -> x.file(early));
      ask(all, "file(" + late + ")", () -> x.file(late));
    }
  }

  private static void askMoves(List<String> all, CosetTables x) {
    int size = Math.min(MOST_STATES, x.size());
    for (int i = 0; i < SAMPLES; i++) {
      int n = i * size / SAMPLES;
      for (int j = 0; j < 6; j++) {
        int m = j;
        ask(all, "number() after set(" + n + "), apply(" + m + ")", () -> {
          x.set(n);
          x.apply(m);
          return x.number();
        });
      }
    }
  }

  private static void ask(List<String> all, String call, LongSupplier answer) {
    String got;
    try {
      got = String.valueOf(answer.getAsLong());
    } catch (RuntimeException e) {
      got = e.getClass().getName();
    }
    all.add(call + ": " + got);
  }
}
