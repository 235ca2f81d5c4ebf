import com.sun.management.ThreadMXBean;
import java.lang.management.ManagementFactory;
import java.util.Random;

/** All calls of a run live in one room: objects are small, and calls make nothing. */
public final class RoomTest {
  private static final ThreadMXBean BEAN = (ThreadMXBean) ManagementFactory.getThreadMXBean();
  private static final long BYTES_OF_AN_OBJECT = 400_000;
  private static final long BYTES_OF_CALLS = 20_000;
  private static int wrong = 0;
  private static long sum = 0;

  public static void main(String[] args) {
    ask(full(1), 1); // classes are loaded by then
    long before = taken();
    TraceMachines x = new TraceMachines();
    must("a new object", taken() - before, BYTES_OF_AN_OBJECT);
    x = full(2);
    before = taken();
    ask(x, 8);
    must("8 times all calls", taken() - before, BYTES_OF_CALLS);
    System.out.println("the room: " + wrong + " wrong (" + sum + ")");
    if (wrong != 0) System.exit(1);
  }

  private static long taken() { return BEAN.getThreadAllocatedBytes(Thread.currentThread().getId()); }

  private static void must(String what, long bytes, long most) {
    System.out.println(what + ": " + bytes + " bytes");
    if (bytes > most) {
      wrong++;
      System.out.println("more than " + most);
    }
  }

  private static void bringOne(TraceMachines x, Random draws, int length) {
    for (int i = 0; i < length; i += 4) x.sign(0x61616161 + draws.nextInt(10) * 0x01000100 + draws.nextInt(10) * 0x00010001);
    x.traces();
  }

  private static TraceMachines full(int seed) {
    TraceMachines x = new TraceMachines();
    Random draws = new Random(seed);
    for (int t = 0; t < 20; t++) bringOne(x, draws, 12);
    if (x.count(1) != 240) throw new IllegalStateException("240 calls");
    return x;
  }

  private static void ask(TraceMachines x, int times) {
    Random draws = new Random(3);
    for (int i = 0; i < times; i++) {
      int k = i % 4;
      x.depth(k);
      x.margin(i);
      x.drop(i);
      bringOne(x, draws, 12);
      x.sign(0x61626364);
      x.end(3);
      sum += x.run(true) + x.ran(0) + x.call(3, 4, 3) + x.state(1, 5) + x.edge(3, 3) + x.vague(1) + x.cover(1) + x.ways(2)
          + x.words(8) + x.apart(k, 3, -1) + x.walk(i, -1) + x.rule(5, 1, 2, 1) + x.rules(2, 1, -1) + x.odd(5, 2)
          + x.oddest(4) + x.held(3, k, true) + x.fit(k, 1) + x.best(0) + x.count(5);
      x.keep(0);
      x.undo();
      x.again(0);
    }
  }
}
