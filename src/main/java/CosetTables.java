import java.util.Arrays;

/**
 * Tables of least moves for some of the pieces of a turning puzzle: states with numbers both ways,
 * worked out round by round from the goal in two measures, packed into bits, walked down by what is
 * left of them, taken together by symmetries, written as a file.
 */
public final class CosetTables {
  private static final int MOST_MOVES = 6;
  private static final int MOST_CHOSEN = 4;
  private static final int MOST_SYMMETRIES = 4;
  /** Eight places with three twists allow no order above 45. */
  private static final int ORDER_BOUND = 64;
  private static final int NO_VALUE = -1;
  private static final int NO_TABLE = -2;
  private static final int HEADER_BYTES = 6;
  private static final int CHECK_MODULUS = 251;

  private final int places;
  private final int twists;
  private final Move[] moves;
  private int moveCount;
  private final int[][] symmetries;
  private int symmetryCount;
  private final Numbering numbering;
  private final State now;
  private final State walker;
  private final State mirror;
  private final Move backward;
  private final int[] repeats;
  private final Steps steps;
  private final Table table;
  private final Orbits orbits;

  public CosetTables(int places, int twists) {
    this.places = Math.max(2, Math.min(8, places));
    this.twists = Math.max(1, Math.min(3, twists));
    moves = new Move[MOST_MOVES];
    for (int m = 0; m < MOST_MOVES; m++) {
      moves[m] = new Move(this.places, this.twists);
    }
    symmetries = new int[MOST_SYMMETRIES][this.places];
    numbering = new Numbering(this.places, this.twists);
    now = new State(this.places);
    walker = new State(this.places);
    mirror = new State(this.places);
    backward = new Move(this.places, this.twists);
    repeats = new int[MOST_MOVES];
    steps = new Steps();
    table = new Table();
    orbits = new Orbits();
  }

  public int move() {
    if (moveCount >= MOST_MOVES) {
      return -1;
    }
    movesChanged();
    return moveCount++;
  }

  public boolean exchange(int move, int a, int b) throws ArrayIndexOutOfBoundsException {
    requireIndex(move, moveCount);
    requireIndex(a, places);
    requireIndex(b, places);
    if (a == b) {
      return false;
    }
    swap(moves[move].goal, a, b);
    swap(moves[move].added, a, b);
    movesChanged();
    return true;
  }

  public boolean adds(int move, int place, int twist)
      throws ArrayIndexOutOfBoundsException, IllegalArgumentException {
    requireIndex(move, moveCount);
    requireIndex(place, places);
    if (twist < 0 || twist >= twists) {
      throw new IllegalArgumentException("such a twist can't be added");
    }
    if (moves[move].added[place] == twist) {
      return false;
    }
    moves[move].added[place] = twist;
    movesChanged();
    return true;
  }

  public int order(int move) throws ArrayIndexOutOfBoundsException {
    requireIndex(move, moveCount);
    return orderOf(moves[move]);
  }

  public boolean choose(int piece, boolean on) throws ArrayIndexOutOfBoundsException {
    requireIndex(piece, places);
    if (numbering.has(piece) == on || (on && numbering.chosenCount >= MOST_CHOSEN)) {
      return false;
    }
    numbering.change(piece, on);
    table.drop();
    orbits.forget();
    now.goHome();
    return true;
  }

  public int size() {
    return numbering.stateCount();
  }

  public void set(int number) throws ArrayIndexOutOfBoundsException {
    requireIndex(number, numbering.stateCount());
    numbering.read(number, now);
  }

  public int number() {
    return numbering.numberOf(now);
  }

  public int place(int piece) throws ArrayIndexOutOfBoundsException {
    requireIndex(piece, places);
    return numbering.has(piece) ? now.at[piece] : -1;
  }

  public int twist(int piece) throws ArrayIndexOutOfBoundsException {
    requireIndex(piece, places);
    return numbering.has(piece) ? now.turned[piece] : -1;
  }

  public void apply(int move) throws ArrayIndexOutOfBoundsException {
    requireIndex(move, moveCount);
    now.follow(moves[move]);
  }

  public int build(int measure) {
    if (measure != 0 && measure != 1) {
      return -1;
    }
    steps.prepare(numbering, moveCount);
    for (int m = 0; m < moveCount; m++) {
      // The table grows from the goal outwards, so each move is walked against its direction.
      backward.invert(moves[m]);
      steps.learn(m, backward, numbering, walker);
      repeats[m] = mostRepeats(m, measure);
    }
    walker.goHome();
    return table.grow(numbering, numbering.numberOf(walker), measure, steps, repeats);
  }

  public int value(int number) throws ArrayIndexOutOfBoundsException {
    requireIndex(number, numbering.stateCount());
    return table.look(number);
  }

  public int count(int value) {
    return table.built ? table.having(value) : -1;
  }

  public long packed(int bits, int k) throws IllegalArgumentException {
    if (bits != 2 && bits != 4) {
      throw new IllegalArgumentException("bits must be 2 or 4");
    }
    return table.built ? table.word(bits, k) : 0;
  }

  public int down() {
    int value = table.look(numbering.numberOf(now));
    if (value <= 0) {
      return -1;
    }
    int wanted = (value - 1) % 3;
    for (int m = 0; m < moveCount; m++) {
      int times = fewestTimes(m, wanted);
      if (times > 0) {
        return 16 * m + times;
      }
    }
    return -1;
  }

  public int symmetry() {
    if (symmetryCount >= MOST_SYMMETRIES) {
      return -1;
    }
    leaveAll(symmetries[symmetryCount]);
    orbits.forget();
    return symmetryCount++;
  }

  public boolean turn(int symmetry, int a, int b) throws ArrayIndexOutOfBoundsException {
    requireIndex(symmetry, symmetryCount);
    requireIndex(a, places);
    requireIndex(b, places);
    if (a == b) {
      return false;
    }
    swap(symmetries[symmetry], a, b);
    orbits.forget();
    return true;
  }

  public boolean good(int symmetry) throws ArrayIndexOutOfBoundsException {
    requireIndex(symmetry, symmetryCount);
    return isGood(symmetries[symmetry]);
  }

  public int least(int number) throws ArrayIndexOutOfBoundsException {
    requireIndex(number, numbering.stateCount());
    workOutOrbits();
    return orbits.root(number);
  }

  public int classes() {
    workOutOrbits();
    return orbits.orbitCount;
  }

  public int file(int i) {
    if (!table.built || i < 0) {
      return -1;
    }
    int check = HEADER_BYTES + table.bodyBytes();
    if (i < HEADER_BYTES) {
      return headerByte(i);
    }
    if (i < check) {
      return table.bodyByte(i - HEADER_BYTES);
    }
    return i == check ? checkByte() : -1;
  }

  private static void requireIndex(int index, int bound) {
    if (index < 0 || index >= bound) {
      throw new ArrayIndexOutOfBoundsException("there is none of this number");
    }
  }

  private static void leaveAll(int[] goal) {
    for (int q = 0; q < goal.length; q++) {
      goal[q] = q;
    }
  }

  private static int[] rowThatLeavesAll(int length) {
    int[] goal = new int[length];
    leaveAll(goal);
    return goal;
  }

  private static void swap(int[] row, int a, int b) {
    int kept = row[a];
    row[a] = row[b];
    row[b] = kept;
  }

  /** What a run makes is never given back, so a row is made anew only when it is too short. */
  private static int[] roomFor(int[] row, int length) {
    return row.length >= length ? row : new int[length];
  }

  private void movesChanged() {
    table.drop();
    orbits.forget();
  }

  private int orderOf(Move move) {
    walker.goHome();
    for (int times = 1; times < ORDER_BOUND; times++) {
      walker.follow(move);
      if (walker.isHome()) {
        return times;
      }
    }
    return ORDER_BOUND;
  }

  private int mostRepeats(int move, int measure) {
    return measure == 0 ? 1 : orderOf(moves[move]) - 1;
  }

  /** Only remainders by 3 are asked for: in measure 0 a value that rises by 2 counts as well. */
  private int fewestTimes(int move, int wanted) {
    int most = mostRepeats(move, table.measure);
    walker.copy(now);
    for (int times = 1; times <= most; times++) {
      walker.follow(moves[move]);
      int value = table.look(numbering.numberOf(walker));
      if (value >= 0 && value % 3 == wanted) {
        return times;
      }
    }
    return 0;
  }

  private boolean isGood(int[] symmetry) {
    for (int p = 0; p < places; p++) {
      if (numbering.has(p) && !numbering.has(symmetry[p])) {
        return false;
      }
    }
    for (int m = 0; m < moveCount; m++) {
      if (!isTakenToMove(moves[m], symmetry)) {
        return false;
      }
    }
    return true;
  }

  private boolean isTakenToMove(Move move, int[] symmetry) {
    for (int m = 0; m < moveCount; m++) {
      if (moves[m].isImage(move, symmetry)) {
        return true;
      }
    }
    return false;
  }

  private void workOutOrbits() {
    if (orbits.known) {
      return;
    }
    orbits.begin(numbering);
    for (int s = 0; s < symmetryCount; s++) {
      if (isGood(symmetries[s])) {
        orbits.learn(symmetries[s], numbering, walker, mirror);
        orbits.joinImages();
      }
    }
    orbits.known = true;
  }

  private int headerByte(int i) {
    switch (i) {
      case 0:
        return 67;
      case 1:
        return 84;
      case 2:
        return places;
      case 3:
        return twists;
      case 4:
        return numbering.chosenCount;
      default:
        return table.measure;
    }
  }

  private int checkByte() {
    int sum = 0;
    for (int i = 0; i < HEADER_BYTES; i++) {
      sum += headerByte(i);
    }
    int bytes = table.bodyBytes();
    for (int i = 0; i < bytes; i++) {
      sum = (sum + table.bodyByte(i)) % CHECK_MODULUS;
    }
    return sum % CHECK_MODULUS;
  }

  /** Where each place goes, and how much is added to the twist of what comes from it. */
  private static final class Move {
    private final int twists;
    private final int[] goal;
    private final int[] added;

    Move(int places, int twists) {
      this.twists = twists;
      goal = rowThatLeavesAll(places);
      added = new int[places];
    }

    void invert(Move move) {
      for (int q = 0; q < goal.length; q++) {
        int to = move.goal[q];
        goal[to] = q;
        added[to] = (twists - move.added[q]) % twists;
      }
    }

    boolean isImage(Move move, int[] symmetry) {
      for (int q = 0; q < goal.length; q++) {
        int from = symmetry[q];
        if (goal[from] != symmetry[move.goal[q]] || added[from] != move.added[q]) {
          return false;
        }
      }
      return true;
    }
  }

  /**
   * Where each piece is, and its twist. All pieces are carried along, as an order asks for all of
   * them; of those that are not chosen nothing else is ever asked.
   */
  private static final class State {
    private final int[] at;
    private final int[] turned;

    State(int places) {
      at = rowThatLeavesAll(places);
      turned = new int[places];
    }

    void goHome() {
      leaveAll(at);
      Arrays.fill(turned, 0);
    }

    boolean isHome() {
      for (int p = 0; p < at.length; p++) {
        if (at[p] != p || turned[p] != 0) {
          return false;
        }
      }
      return true;
    }

    void copy(State state) {
      for (int p = 0; p < at.length; p++) {
        at[p] = state.at[p];
        turned[p] = state.turned[p];
      }
    }

    void follow(Move move) {
      for (int p = 0; p < at.length; p++) {
        int from = at[p];
        turned[p] = (turned[p] + move.added[from]) % move.twists;
        at[p] = move.goal[from];
      }
    }

    void becomeImage(State state, int[] symmetry) {
      for (int p = 0; p < at.length; p++) {
        at[symmetry[p]] = symmetry[state.at[p]];
        turned[symmetry[p]] = state.turned[p];
      }
    }
  }

  /**
   * Which pieces are chosen, and the numbers of their states. A number is that of the arrangement
   * (the places alone) times how many twistings there are, and that of the twisting.
   */
  private static final class Numbering {
    private final int places;
    private final int twists;
    private final boolean[] chosen;
    private final int[] pieces;
    private final int[] ranks;
    private int chosenCount;
    private int arrangements;
    private int twistings;

    Numbering(int places, int twists) {
      this.places = places;
      this.twists = twists;
      chosen = new boolean[places];
      pieces = new int[MOST_CHOSEN];
      ranks = new int[MOST_CHOSEN];
      arrangements = 1;
      twistings = 1;
    }

    boolean has(int piece) {
      return chosen[piece];
    }

    void change(int piece, boolean on) {
      chosen[piece] = on;
      chosenCount = 0;
      arrangements = 1;
      twistings = 1;
      for (int p = 0; p < places; p++) {
        if (chosen[p] && chosenCount < MOST_CHOSEN) {
          arrangements *= places - chosenCount;
          twistings *= twists;
          pieces[chosenCount] = p;
          chosenCount++;
        }
      }
    }

    int stateCount() {
      return arrangements * twistings;
    }

    int numberOf(State state) {
      int number = 0;
      int taken = 0;
      for (int i = 0; i < chosenCount; i++) {
        int place = state.at[pieces[i]];
        int lower = (1 << place) - 1;
        number = number * (places - i) + place - Integer.bitCount(taken & lower);
        taken |= 1 << place;
      }
      for (int i = 0; i < chosenCount; i++) {
        number = number * twists + state.turned[pieces[i]];
      }
      return number;
    }

    void read(int number, State state) {
      readTwisting(number % twistings, state);
      readArrangement(number / twistings, state);
    }

    private void readTwisting(int twisting, State state) {
      int left = twisting;
      for (int i = chosenCount - 1; i >= 0; i--) {
        state.turned[pieces[i]] = left % twists;
        left /= twists;
      }
    }

    private void readArrangement(int arrangement, State state) {
      int left = arrangement;
      for (int i = chosenCount - 1; i >= 0; i--) {
        ranks[i] = left % (places - i);
        left /= places - i;
      }
      int taken = 0;
      for (int i = 0; i < chosenCount; i++) {
        int place = freePlace(taken, ranks[i]);
        state.at[pieces[i]] = place;
        taken |= 1 << place;
      }
    }

    private int freePlace(int taken, int rank) {
      int left = rank;
      for (int q = 0; q < places; q++) {
        if ((taken >> q & 1) == 0) {
          if (left == 0) {
            return q;
          }
          left--;
        }
      }
      return places - 1;
    }

    int twistingSum(int a, int b) {
      int sum = 0;
      int weight = 1;
      int leftA = a;
      int leftB = b;
      for (int i = 0; i < chosenCount; i++) {
        sum += (leftA + leftB) % twists * weight;
        leftA /= twists;
        leftB /= twists;
        weight *= twists;
      }
      return sum;
    }
  }

  /**
   * Each move's effect on numbers. Where a piece goes does not depend on twists, and what is added
   * depends on places alone, so rows for arrangements and for twistings stand for all states.
   */
  private static final class Steps {
    private int moveCount;
    private int arrangements;
    private int twistings;
    private int[] arrangementAfter;
    private int[] twistingAdded;
    private int[] twistingSums;

    Steps() {
      arrangements = 1;
      twistings = 1;
      arrangementAfter = new int[0];
      twistingAdded = new int[0];
      twistingSums = new int[0];
    }

    void prepare(Numbering numbering, int moves) {
      moveCount = moves;
      arrangements = numbering.arrangements;
      twistings = numbering.twistings;
      arrangementAfter = roomFor(arrangementAfter, MOST_MOVES * arrangements);
      twistingAdded = roomFor(twistingAdded, MOST_MOVES * arrangements);
      twistingSums = roomFor(twistingSums, twistings * twistings);
      for (int a = 0; a < twistings; a++) {
        for (int b = 0; b < twistings; b++) {
          twistingSums[a * twistings + b] = numbering.twistingSum(a, b);
        }
      }
    }

    void learn(int move, Move effect, Numbering numbering, State walker) {
      for (int r = 0; r < arrangements; r++) {
        numbering.read(r * twistings, walker);
        walker.follow(effect);
        int after = numbering.numberOf(walker);
        arrangementAfter[move * arrangements + r] = after / twistings;
        twistingAdded[move * arrangements + r] = after % twistings;
      }
    }

    int after(int number, int move) {
      int arrangement = number / twistings;
      int twisting = number - arrangement * twistings;
      int entry = move * arrangements + arrangement;
      return arrangementAfter[entry] * twistings
          + twistingSums[twisting * twistings + twistingAdded[entry]];
    }
  }

  /** The values of all states, and the states that have one in the order of their values. */
  private static final class Table {
    private boolean built;
    private int measure;
    private int states;
    private int reached;
    private int[] values;
    private int[] queue;

    Table() {
      values = new int[0];
      queue = new int[0];
    }

    void drop() {
      built = false;
    }

    int grow(Numbering numbering, int goal, int measure, Steps steps, int[] repeats) {
      built = true;
      this.measure = measure;
      states = numbering.stateCount();
      values = roomFor(values, states);
      queue = roomFor(queue, states);
      Arrays.fill(values, 0, states, NO_VALUE);
      values[goal] = 0;
      queue[0] = goal;
      reached = 1;
      for (int next = 0; next < states && next < reached; next++) {
        for (int m = 0; m < steps.moveCount; m++) {
          spread(queue[next], m, steps, repeats[m]);
        }
      }
      return values[queue[reached - 1]];
    }

    /**
     * A walk round a move's circle may end at a state that is no farther from the goal: the walk
     * from that one gives, or gave, the rest of the circle values that are as low.
     */
    private void spread(int from, int move, Steps steps, int repeats) {
      int number = from;
      for (int times = 0; times < repeats; times++) {
        number = steps.after(number, move);
        if (values[number] == NO_VALUE) {
          values[number] = values[from] + 1;
          queue[reached] = number;
          reached++;
        } else if (values[number] <= values[from]) {
          return;
        }
      }
    }

    int look(int number) {
      return built ? values[number] : NO_TABLE;
    }

    int having(int value) {
      if (value == NO_VALUE) {
        return states - reached;
      }
      if (value < 0 || value > values[queue[reached - 1]]) {
        return 0;
      }
      return lowerThan(value + 1) - lowerThan(value);
    }

    private int lowerThan(int value) {
      int low = 0;
      int high = reached;
      for (int halvings = 0; halvings < 32 && low < high; halvings++) {
        int middle = (low + high) / 2;
        if (values[queue[middle]] < value) {
          low = middle + 1;
        } else {
          high = middle;
        }
      }
      return low;
    }

    long word(int bits, int k) {
      int each = bits == 2 ? 32 : 16;
      if (k < 0 || k > (states - 1) / each) {
        return 0;
      }
      long word = 0;
      int first = k * each;
      for (int i = 0; i < each && first + i < states; i++) {
        long entry = bits == 2 ? twoBits(first + i) : fourBits(first + i);
        word |= entry << (i * bits);
      }
      return word;
    }

    private int twoBits(int number) {
      int value = values[number];
      return value == NO_VALUE ? 3 : value % 3;
    }

    private int fourBits(int number) {
      int value = values[number];
      return value == NO_VALUE ? 15 : Math.min(value, 14);
    }

    int bodyBytes() {
      return (states + 1) / 2;
    }

    int bodyByte(int i) {
      int first = 2 * i;
      int upper = first + 1 < states ? fourBits(first + 1) : 0;
      return fourBits(first) + 16 * upper;
    }
  }

  /** The CLASSES of states, as links that lead down to the least number of each. */
  private static final class Orbits {
    private boolean known;
    private int orbitCount;
    private int states;
    private int arrangements;
    private int twistings;
    private int[] links;
    private int[] arrangementImages;
    private int[] twistingImages;

    Orbits() {
      links = new int[0];
      arrangementImages = new int[0];
      twistingImages = new int[0];
    }

    void forget() {
      known = false;
    }

    void begin(Numbering numbering) {
      states = numbering.stateCount();
      arrangements = numbering.arrangements;
      twistings = numbering.twistings;
      links = roomFor(links, states);
      arrangementImages = roomFor(arrangementImages, arrangements);
      twistingImages = roomFor(twistingImages, twistings);
      leaveAll(links);
      orbitCount = states;
    }

    /** A symmetry takes arrangements to arrangements and twistings to twistings, each apart. */
    void learn(int[] symmetry, Numbering numbering, State walker, State mirror) {
      for (int r = 0; r < arrangements; r++) {
        numbering.read(r * twistings, walker);
        mirror.becomeImage(walker, symmetry);
        arrangementImages[r] = numbering.numberOf(mirror) / twistings;
      }
      for (int t = 0; t < twistings; t++) {
        numbering.read(t, walker);
        mirror.becomeImage(walker, symmetry);
        twistingImages[t] = numbering.numberOf(mirror) % twistings;
      }
    }

    void joinImages() {
      for (int r = 0; r < arrangements; r++) {
        for (int t = 0; t < twistings; t++) {
          join(r * twistings + t, arrangementImages[r] * twistings + twistingImages[t]);
        }
      }
    }

    private void join(int a, int b) {
      int rootA = root(a);
      int rootB = root(b);
      if (rootA != rootB) {
        links[Math.max(rootA, rootB)] = Math.min(rootA, rootB);
        orbitCount--;
      }
    }

    int root(int number) {
      int at = number;
      for (int i = 0; i < states && links[at] != at; i++) {
        links[at] = links[links[at]];
        at = links[at];
      }
      return at;
    }
  }
}
