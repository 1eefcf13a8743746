import java.util.ArrayList;
import java.util.List;
import java.util.function.Function;

/**
 * "A method that throws an exception changes nothing. If several exceptions apply, the one that is named
 * first is thrown." Each method, in states that differ in all that an exception depends on, with arguments
 * at and just outside their bounds: it throws what is due, or nothing where none is.
 */
public final class RefusalTest {
  private static final int MIN = Integer.MIN_VALUE;
  private static final int MAX = Integer.MAX_VALUE;
  private static final String INDEX = "throws.IndexOutOfBoundsException";
  private static final String ARGUMENT = "throws.IllegalArgumentException";
  private static final String STATE = "throws.IllegalStateException";
  private static final String NOTHING = "";
  private static final int STATES = 9;

  private static int refusals = 0;

  private final int state;
  private final RegisterAllocator unchanged;
  private final String probe;

  private RefusalTest(int state) {
    this.state = state;
    unchanged = make(state);
    probe = probe(make(state));
  }

  public static void main(String[] args) {
    theFirstNamedOfSeveral();
    for (int state = 0; state < STATES; state++) {
      RefusalTest test = new RefusalTest(state);
      test.ofCode();
      test.ofTelling();
      test.ofAllocation();
      test.thatNeverThrow();
    }
    System.out.println(refusals + " refused calls");
    Check.due("many calls are refused", refusals > 1000, true);
    Check.end();
  }

  private static RegisterAllocator make(int state) {
    RegisterAllocator x = new RegisterAllocator();
    switch (state) {
      case 0 -> { }
      case 1 -> allocateAndRun(x);
      case 2 -> append(x, 8);
      case 3 -> {
        append(x, 8);
        allocateAndRun(x);
      }
      case 4 -> append(x, 60);
      case 5 -> {
        append(x, 60);
        x.setRegisters(2);
        allocateAndRun(x);
      }
      case 6 -> {
        append(x, 12);
        x.setRegisters(8);
        allocateAndRun(x);
        x.cut(3);
      }
      case 7 -> {
        append(x, 59);
        x.setRegisters(3);
        allocateAndRun(x);
      }
      default -> {
        x.constant(9);
        x.allocate();
      }
    }
    return x;
  }

  private static void append(RegisterAllocator x, int many) {
    for (int i = 0; i < many; i++) {
      int kind = i % 6;
      if (kind == 0 || kind == 1) {
        x.constant(7 * i - 20);
      } else if (kind == 5) {
        x.pass(6, i - 1);
      } else if (kind == 4) {
        x.pass(5, i - 2);
      } else {
        x.operate(1 + i % 4, i - 1, i - 2);
      }
    }
  }

  private static void allocateAndRun(RegisterAllocator x) {
    x.allocate();
    x.run();
  }

  /** All that can be told of an object, also what shows only in later calls: the ints, a and b, the registers. */
  private static String probe(RegisterAllocator x) {
    StringBuilder text = new StringBuilder(Check.state(x));
    text.append("\nrun ").append(Check.outcome(x::run)).append(" ").append(Check.outputs(x));
    text.append("\nregisters ").append(x.setRegisters(2)).append("\nints");
    for (int i = 0; i < x.size(); i++) {
      int at = i;
      text.append(" ").append(Check.outcome(() -> x.change(at, at + 1)));
    }
    x.cut(Math.max(0, x.size() - 30));
    for (int i = x.size() - 1; i >= 0; i--) {
      int at = i;
      text.append(" ").append(Check.outcome(() -> x.pass(6, at)));
    }
    text.append("\nallocate ").append(x.allocate()).append(" ").append(Check.steps(x));
    text.append("\nrun ").append(x.run()).append(" ").append(Check.outputs(x)).append(" ").append(x.digest());
    return text.toString();
  }

  private void due(String call, String exception, Function<RegisterAllocator, Object> made) {
    RegisterAllocator x = make(state);
    String got = Check.outcome(() -> made.apply(x));
    String told = "state " + state + ": " + call;
    if (exception.isEmpty()) {
      Check.due(told + " throws", got.startsWith("throws."), false);
    } else {
      refusals++;
      Check.due(told, got, exception);
      Check.due(told + ", all that is seen after it", probe(x), probe);
    }
  }

  private boolean is(int i) {
    return i >= 0 && i < unchanged.size();
  }

  private boolean isValue(int i) {
    return is(i) && unchanged.kind(i) != 6;
  }

  /** The bounds of the code, an OUT, and what is far outside. */
  private List<Integer> instructions() {
    List<Integer> all = new ArrayList<>(List.of(MIN, -1, 0, unchanged.size() - 1, unchanged.size(), MAX));
    for (int i : new int[] {4, 5}) {
      if (unchanged.size() > i) {
        all.add(i);
      }
    }
    return all;
  }

  private void ofCode() {
    boolean full = unchanged.size() == 60;
    due("constant(3)", full ? STATE : NOTHING, x -> x.constant(3));
    for (int a : instructions()) {
      for (int kind : new int[] {MIN, 4, 5, 6, 7, MAX}) {
        String due = !isValue(a) ? INDEX : kind != 5 && kind != 6 ? ARGUMENT : full ? STATE : NOTHING;
        due("pass(" + kind + ", " + a + ")", due, x -> x.pass(kind, a));
      }
      for (int b : instructions()) {
        for (int kind : new int[] {MIN, -1, 0, 1, 4, 5, MAX}) {
          String due = !isValue(a) || !isValue(b) ? INDEX : kind < 1 || kind > 4 ? ARGUMENT : full ? STATE : NOTHING;
          due("operate(" + kind + ", " + a + ", " + b + ")", due, x -> x.operate(kind, a, b));
        }
      }
      String due = !is(a) ? INDEX : unchanged.kind(a) != 0 ? ARGUMENT : NOTHING;
      due("change(" + a + ", 88)", due, x -> x.change(a, 88));
    }
    int size = unchanged.size();
    for (int many : new int[] {MIN, -1, 0, 1, size - 1, size, size + 1, 60, 61, MAX}) {
      due("cut(" + many + ")", many < 0 || many > size ? ARGUMENT : NOTHING, x -> x.cut(many));
    }
    for (int registers : new int[] {MIN, -2, 0, 1, 2, 3, 7, 8, 9, MAX}) {
      due("setRegisters(" + registers + ")", registers < 2 || registers > 8 ? ARGUMENT : NOTHING,
          x -> x.setRegisters(registers));
    }
  }

  private void ofTelling() {
    for (int i : instructions()) {
      String due = is(i) ? NOTHING : INDEX;
      due("kind(" + i + ")", due, x -> x.kind(i));
      due("counts(" + i + ")", due, x -> x.counts(i));
      due("pressure(" + i + ")", due, x -> x.pressure(i));
      for (int from : new int[] {MIN, -1, 0, 1, 59, 60, MAX}) {
        due("nextUse(" + i + ", " + from + ")", due, x -> x.nextUse(i, from));
      }
    }
    int outputs = Check.outputs(unchanged).isEmpty() ? 0 : Check.outputs(unchanged).split(" ").length;
    for (int index : new int[] {MIN, -1, 0, outputs - 1, outputs, 59, 60, MAX}) {
      due("output(" + index + ")", index < 0 || index >= outputs ? INDEX : NOTHING, x -> x.output(index));
    }
  }

  private void ofAllocation() {
    boolean allocated = unchanged.isAllocated();
    int steps = allocated ? Check.stepsIn(unchanged) : 0;
    int pieces = allocated ? unchanged.pieceCount() : 0;
    for (int what : new int[] {MIN, -1, 0, 3, 4, MAX}) {
      for (int step : new int[] {MIN, -1, 0, steps - 1, steps, 240, MAX}) {
        boolean is = step >= 0 && step < steps && what >= 0 && what <= 3;
        due("step(" + step + ", " + what + ")", !allocated ? STATE : is ? NOTHING : INDEX, x -> x.step(step, what));
      }
      for (int piece : new int[] {MIN, -1, 0, pieces - 1, pieces, 180, MAX}) {
        boolean is = piece >= 0 && piece < pieces && what >= 0 && what <= 3;
        due("piece(" + piece + ", " + what + ")", !allocated ? STATE : is ? NOTHING : INDEX, x -> x.piece(piece, what));
      }
    }
    for (int kind : new int[] {MIN, -1, 0, 8, 9, MAX}) {
      boolean is = kind >= 0 && kind <= 8;
      due("stepCount(" + kind + ")", !allocated ? STATE : is ? NOTHING : INDEX, x -> x.stepCount(kind));
    }
    due("slots()", allocated ? NOTHING : STATE, x -> x.slots());
    due("pieceCount()", allocated ? NOTHING : STATE, x -> x.pieceCount());
    due("run()", allocated ? NOTHING : STATE, x -> x.run());
  }

  private void thatNeverThrow() {
    due("size()", NOTHING, x -> x.size());
    due("allocate()", NOTHING, x -> x.allocate());
    due("isAllocated()", NOTHING, x -> x.isAllocated());
    due("comfortable()", NOTHING, x -> x.comfortable());
    due("digest()", NOTHING, x -> x.digest());
  }

  /** Each pair of exceptions that can apply at once, told by hand. */
  private static void theFirstNamedOfSeveral() {
    RegisterAllocator few = Check.code(4, "#1 out0");
    first("operate: no a before a wrong kind", INDEX, () -> few.operate(0, 2, 0));
    first("operate: no b before a wrong kind", INDEX, () -> few.operate(5, 0, -1));
    first("operate: an OUT before a wrong kind", INDEX, () -> few.operate(9, 1, 0));
    first("pass: no a before a wrong kind", INDEX, () -> few.pass(4, 2));
    first("pass: an OUT before a wrong kind", INDEX, () -> few.pass(7, 1));
    RegisterAllocator full = Check.code(4, "#1" + " out0".repeat(59));
    first("operate: no a before the full code", INDEX, () -> full.operate(1, 60, 0));
    first("operate: no b before the full code", INDEX, () -> full.operate(1, 0, 60));
    first("operate: an OUT before the full code", INDEX, () -> full.operate(1, 0, 59));
    first("operate: a wrong kind before the full code", ARGUMENT, () -> full.operate(0, 0, 0));
    first("operate: no a before a wrong kind and the full code", INDEX, () -> full.operate(5, -1, 0));
    first("operate: the full code alone", STATE, () -> full.operate(1, 0, 0));
    first("pass: no a before the full code", INDEX, () -> full.pass(6, 60));
    first("pass: an OUT before the full code", INDEX, () -> full.pass(6, 59));
    first("pass: a wrong kind before the full code", ARGUMENT, () -> full.pass(4, 0));
    first("pass: no a before a wrong kind and the full code", INDEX, () -> full.pass(7, -1));
    first("pass: the full code alone", STATE, () -> full.pass(5, 0));
    first("change: no instruction, so it is no CONST either", INDEX, () -> full.change(60, 1));
    first("change: an OUT is an instruction, but no CONST", ARGUMENT, () -> full.change(59, 1));
    first("step: no allocation before no step", STATE, () -> few.step(-1, 0));
    first("step: no allocation before a wrong what", STATE, () -> few.step(0, 4));
    first("stepCount: no allocation before a wrong kind", STATE, () -> few.stepCount(9));
    first("piece: no allocation before no piece", STATE, () -> few.piece(-1, 0));
    first("piece: no allocation before a wrong what", STATE, () -> few.piece(0, 4));
  }

  private static void first(String what, String exception, Check.Call call) {
    Check.due(what, Check.outcome(call), exception);
  }
}
