import java.util.ArrayList;
import java.util.Arrays;
import java.util.List;
import java.util.TreeSet;

/**
 * The document's words once more, by other means: all states are listed in the order of their
 * numbers, values come from looking forward at all steps of all states again and again, classes
 * from handing the least number round until nothing changes.
 */
final class Model {
  final int places;
  final int twists;
  final List<int[][]> moves = new ArrayList<>();
  final List<int[]> symmetries = new ArrayList<>();
  final TreeSet<Integer> chosen = new TreeSet<>();
  List<int[]> states;
  int[] numbers;
  int now;
  int[] table;
  int measure;

  Model(int places, int twists) {
    this.places = places < 2 ? 2 : places > 8 ? 8 : places;
    this.twists = twists < 1 ? 1 : twists > 3 ? 3 : twists;
    listStates();
  }

  private void listStates() {
    states = new ArrayList<>();
    int[] state = new int[2 * chosen.size()];
    listPlaces(state, 0);
    numbers = new int[331776];
    Arrays.fill(numbers, -1);
    for (int n = 0; n < states.size(); n++) {
      numbers[key(states.get(n))] = n;
    }
    now = goal();
    table = null;
  }

  private void listPlaces(int[] state, int i) {
    if (i == chosen.size()) {
      listTwists(state, 0);
      return;
    }
    for (int q = 0; q < places; q++) {
      boolean free = true;
      for (int j = 0; j < i; j++) {
        free &= state[j] != q;
      }
      if (free) {
        state[i] = q;
        listPlaces(state, i + 1);
      }
    }
  }

  private void listTwists(int[] state, int i) {
    if (i == chosen.size()) {
      states.add(state.clone());
      return;
    }
    for (int t = 0; t < twists; t++) {
      state[chosen.size() + i] = t;
      listTwists(state, i + 1);
    }
  }

  private int key(int[] state) {
    int key = 0;
    for (int i = 0; i < chosen.size(); i++) {
      key = key * 24 + state[i] * 3 + state[chosen.size() + i];
    }
    return key;
  }

  private int moved(int number, int[][] move) {
    int[] state = states.get(number).clone();
    for (int i = 0; i < chosen.size(); i++) {
      int q = state[i];
      state[i] = move[0][q];
      state[chosen.size() + i] = (state[chosen.size() + i] + move[1][q]) % twists;
    }
    return numbers[key(state)];
  }

  private static void need(int index, int bound) {
    if (index < 0 || index >= bound) {
      throw new ArrayIndexOutOfBoundsException("model");
    }
  }

  private static int[] identity(int n) {
    int[] row = new int[n];
    for (int i = 0; i < n; i++) {
      row[i] = i;
    }
    return row;
  }

  int move() {
    if (moves.size() == 6) {
      return -1;
    }
    table = null;
    moves.add(new int[][] {identity(places), new int[places]});
    return moves.size() - 1;
  }

  boolean exchange(int move, int a, int b) {
    need(move, moves.size());
    need(a, places);
    need(b, places);
    if (a == b) {
      return false;
    }
    for (int[] row : moves.get(move)) {
      int kept = row[a];
      row[a] = row[b];
      row[b] = kept;
    }
    table = null;
    return true;
  }

  boolean adds(int move, int place, int twist) {
    need(move, moves.size());
    need(place, places);
    if (twist < 0 || twist > twists - 1) {
      throw new IllegalArgumentException("model");
    }
    boolean changed = moves.get(move)[1][place] != twist;
    moves.get(move)[1][place] = twist;
    if (changed) {
      table = null;
    }
    return changed;
  }

  /** By circles: each comes back after its length, or that times T when twists are left over. */
  int order(int move) {
    need(move, moves.size());
    int all = 1;
    for (int q = 0; q < places; q++) {
      int length = 0;
      int sum = 0;
      int at = q;
      do {
        length++;
        sum += moves.get(move)[1][at];
        at = moves.get(move)[0][at];
      } while (at != q);
      int own = sum % twists == 0 ? length : length * twists;
      int common = all;
      while (common % own != 0) {
        common += all;
      }
      all = common;
    }
    return all;
  }

  boolean choose(int piece, boolean on) {
    need(piece, places);
    if (chosen.contains(piece) == on || on && chosen.size() == 4) {
      return false;
    }
    if (on) {
      chosen.add(piece);
    } else {
      chosen.remove(piece);
    }
    listStates();
    return true;
  }

  int size() {
    return states.size();
  }

  void set(int number) {
    need(number, states.size());
    now = number;
  }

  int number() {
    return now;
  }

  int place(int piece) {
    need(piece, places);
    return chosen.contains(piece) ? states.get(now)[chosen.headSet(piece).size()] : -1;
  }

  int twist(int piece) {
    need(piece, places);
    return chosen.contains(piece)
        ? states.get(now)[chosen.size() + chosen.headSet(piece).size()] : -1;
  }

  void apply(int move) {
    need(move, moves.size());
    now = moved(now, moves.get(move));
  }

  private int most(int move) {
    return measure == 0 ? 1 : order(move) - 1;
  }

  int build(int wanted) {
    if (wanted < 0 || wanted > 1) {
      return -1;
    }
    measure = wanted;
    int[][] next = new int[moves.size()][states.size()];
    for (int m = 0; m < moves.size(); m++) {
      for (int n = 0; n < states.size(); n++) {
        next[m][n] = moved(n, moves.get(m));
      }
    }
    int[] mosts = new int[moves.size()];
    for (int m = 0; m < mosts.length; m++) {
      mosts[m] = most(m);
    }
    table = new int[states.size()];
    Arrays.fill(table, -1);
    table[goal()] = 0;
    int round = 0;
    for (boolean found = true; found; round += found ? 1 : 0) {
      found = false;
      for (int n = 0; n < states.size(); n++) {
        if (table[n] == -1 && leadsTo(n, round, next, mosts)) {
          table[n] = round + 1;
          found = true;
        }
      }
    }
    return round;
  }

  private int goal() {
    int[] goal = new int[2 * chosen.size()];
    int i = 0;
    for (int p : chosen) {
      goal[i++] = p;
    }
    return numbers[key(goal)];
  }

  private boolean leadsTo(int number, int value, int[][] next, int[] mosts) {
    for (int m = 0; m < moves.size(); m++) {
      int at = number;
      for (int k = 1; k <= mosts[m]; k++) {
        at = next[m][at];
        if (table[at] == value) {
          return true;
        }
      }
    }
    return false;
  }

  int value(int number) {
    need(number, states.size());
    return table == null ? -2 : table[number];
  }

  int count(int value) {
    if (table == null) {
      return -1;
    }
    int many = 0;
    for (int v : table) {
      many += v == value ? 1 : 0;
    }
    return many;
  }

  private int bitsOf(int bits, int number) {
    int v = table[number];
    if (bits == 2) {
      return v < 0 ? 3 : v % 3;
    }
    return v < 0 ? 15 : v > 14 ? 14 : v;
  }

  long packed(int bits, int k) {
    if (bits != 2 && bits != 4) {
      throw new IllegalArgumentException("model");
    }
    if (table == null) {
      return 0;
    }
    long word = 0;
    for (int bit = 0; bit < 64; bit += bits) {
      long number = ((long) k * 64 + bit) / bits;
      if (k >= 0 && number < table.length) {
        word |= (long) bitsOf(bits, (int) number) << bit;
      }
    }
    return word;
  }

  int down() {
    if (table == null || table[now] <= 0) {
      return -1;
    }
    for (int m = 0; m < moves.size(); m++) {
      int at = now;
      for (int k = 1; k <= most(m); k++) {
        at = moved(at, moves.get(m));
        if (table[at] >= 0 && (table[at] + 1) % 3 == table[now] % 3) {
          return 16 * m + k;
        }
      }
    }
    return -1;
  }

  int symmetry() {
    if (symmetries.size() == 4) {
      return -1;
    }
    symmetries.add(identity(places));
    return symmetries.size() - 1;
  }

  boolean turn(int symmetry, int a, int b) {
    need(symmetry, symmetries.size());
    need(a, places);
    need(b, places);
    int[] row = symmetries.get(symmetry);
    int kept = row[a];
    row[a] = row[b];
    row[b] = kept;
    return a != b;
  }

  boolean good(int symmetry) {
    need(symmetry, symmetries.size());
    int[] s = symmetries.get(symmetry);
    for (int p : chosen) {
      if (!chosen.contains(s[p])) {
        return false;
      }
    }
    for (int[][] move : moves) {
      int[][] image = new int[2][places];
      for (int a = 0; a < places; a++) {
        image[0][s[a]] = s[move[0][a]];
        image[1][s[a]] = move[1][a];
      }
      boolean found = false;
      for (int[][] other : moves) {
        found |= Arrays.deepEquals(image, other);
      }
      if (!found) {
        return false;
      }
    }
    return true;
  }

  private int image(int number, int[] s) {
    int[] state = states.get(number);
    int[] image = new int[state.length];
    int i = 0;
    for (int p : chosen) {
      int j = chosen.headSet(s[p]).size();
      image[j] = s[state[i]];
      image[chosen.size() + j] = state[chosen.size() + i];
      i++;
    }
    return numbers[key(image)];
  }

  private int[] leasts() {
    int[] least = identity(states.size());
    List<int[]> goods = new ArrayList<>();
    for (int s = 0; s < symmetries.size(); s++) {
      if (good(s)) {
        goods.add(symmetries.get(s));
      }
    }
    for (boolean changed = true; changed;) {
      changed = false;
      for (int[] s : goods) {
        for (int n = 0; n < least.length; n++) {
          int to = image(n, s);
          int low = Math.min(least[n], least[to]);
          changed |= least[n] != low || least[to] != low;
          least[n] = low;
          least[to] = low;
        }
      }
    }
    return least;
  }

  int least(int number) {
    need(number, states.size());
    return leasts()[number];
  }

  int classes() {
    TreeSet<Integer> all = new TreeSet<>();
    for (int low : leasts()) {
      all.add(low);
    }
    return all.size();
  }

  int file(int i) {
    if (table == null) {
      return -1;
    }
    List<Integer> bytes = new ArrayList<>(
        List.of(67, 84, places, twists, chosen.size(), measure));
    for (int n = 0; n < table.length; n += 2) {
      bytes.add(bitsOf(4, n) + (n + 1 < table.length ? bitsOf(4, n + 1) << 4 : 0));
    }
    long sum = 0;
    for (int b : bytes) {
      sum += b;
    }
    bytes.add((int) (sum % 251));
    return i < 0 || i >= bytes.size() ? -1 : bytes.get(i);
  }
}
