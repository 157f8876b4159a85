import java.lang.management.ManagementFactory;

/** The largest object's dearest calls, 512 of them, must stay well inside the room of one run. */
public final class RoomTest {
  /** A seventh of the room's 7.3 million elements, four bytes each. */
  private static final long MOST_BYTES = 4_000_000;

  private static long allocated() {
    com.sun.management.ThreadMXBean threads =
        (com.sun.management.ThreadMXBean) ManagementFactory.getThreadMXBean();
    return threads.getThreadAllocatedBytes(Thread.currentThread().getId());
  }

  private static void dearCalls(CosetTables x) {
    for (int m = 0; m < 6; m++) {
      x.move();
      for (int q = 0; q < 7; q++) {
        x.exchange(m, (q + m) % 8, (q * 3 + 1) % 8);
      }
      x.adds(m, m, 1);
    }
    for (int s = 0; s < 4; s++) {
      x.symmetry();
    }
    int left = 512 - 6 * 9 - 4 - 8;
    for (int p = 0; p < 8; p++) {
      x.choose(7 - p, true);
      x.build(1);
      x.classes();
      left -= 2;
    }
    for (int i = 0; i < left / 8; i++) {
      x.build(i % 2);
      x.turn(i % 4, 0, 1);
      x.classes();
      x.least(i);
      x.packed(2, i);
      x.file(68046);
      x.count(i % 10);
      x.down();
    }
  }

  public static void main(String[] args) {
    dearCalls(new CosetTables(8, 3));
    long before = allocated();
    dearCalls(new CosetTables(8, 3));
    long bytes = allocated() - before;
    System.out.println("512 dear calls made objects of " + bytes + " bytes");
    if (bytes > MOST_BYTES) {
      System.out.println("that is more than " + MOST_BYTES);
      System.exit(1);
    }
  }
}
