import java.lang.management.ManagementFactory;

/** What calls make: the room of a run is small, so all rows are made by the constructor. */
public final class RoomTest {
  private static final long MOST_BYTES_AN_OBJECT = 25_000;
  private static final long MOST_BYTES_OF_CALLS = 2_000;

  public static void main(String[] args) {
    com.sun.management.ThreadMXBean threads =
        (com.sun.management.ThreadMXBean) ManagementFactory.getThreadMXBean();
    used(new RegisterAllocator());
    long before = threads.getCurrentThreadAllocatedBytes();
    long nothing = threads.getCurrentThreadAllocatedBytes() - before;
    before = threads.getCurrentThreadAllocatedBytes();
    RegisterAllocator x = new RegisterAllocator();
    long made = threads.getCurrentThreadAllocatedBytes() - before - nothing;
    before = threads.getCurrentThreadAllocatedBytes();
    int sum = used(x);
    long calls = threads.getCurrentThreadAllocatedBytes() - before - nothing;
    System.out.println(made + " bytes an object, " + calls + " bytes of the calls");
    Check.due("bytes of an object are few (" + made + ")", made <= MOST_BYTES_AN_OBJECT, true);
    Check.due("bytes that calls make are few (" + calls + ")", calls <= MOST_BYTES_OF_CALLS, true);
    Check.due("the calls have run", sum != 0, true);
    Check.end();
  }

  /** Some of each call that makes no exception. */
  private static int used(RegisterAllocator x) {
    int sum = x.constant(7) + x.constant(8);
    for (int i = 2; i < 50; i++) {
      sum += i % 5 == 0 ? x.pass(5, i - 2) : x.operate(1 + i % 4, i - 1, i / 2);
    }
    for (int i = 0; i < 10; i++) {
      sum += x.pass(6, 4 * i + 9);
    }
    sum += x.setRegisters(2);
    for (int call = 0; call < 60; call++) {
      sum += x.allocate() + x.comfortable() + x.run() + (int) x.digest() + x.change(0, call) + x.allocate();
      sum += x.step(call, 1) + x.piece(call / 2, 3) + x.stepCount(8) + x.slots() + x.pieceCount() + x.output(3);
      sum += x.nextUse(call / 2, 0) + x.pressure(call / 2) + x.kind(call / 2) + x.size();
      sum += x.counts(0) && x.isAllocated() ? 1 : 0;
    }
    return sum + x.cut(60);
  }
}
