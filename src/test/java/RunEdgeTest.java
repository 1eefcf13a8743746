import java.math.BigInteger;
import java.util.ArrayList;
import java.util.List;

/** Each sentence that names a boundary case, in promises 21 to 23 and in what the description says of values. */
public final class RunEdgeTest {
  private static final int MIN = Integer.MIN_VALUE;
  private static final int MAX = Integer.MAX_VALUE;
  private static final String INDEX = "IndexOutOfBoundsException";
  private static final String STATE = "IllegalStateException";
  private static final int MOST_CALLS = 512;

  public static void main(String[] args) {
    resultsThatWrapAround();
    wrappedResultsThroughSlots();
    copyHasTheValue();
    numberOfOutputs();
    zeroAtFirst();
    noAllocation();
    latestRunAlone();
    outputsFirstAndLast();
    digestOfLittle();
    digestWithAndWithoutAllocation();
    digestWrapsAround();
    digestOfNegativeNumbers();
    call512();
    Check.end();
  }

  private static void result(int kind, int a, int b, int due) {
    for (int registers = 2; registers <= 8; registers += 6) {
      RegisterAllocator x = new RegisterAllocator();
      x.setRegisters(registers);
      x.constant(a);
      x.constant(b);
      x.operate(kind, 0, 1);
      x.pass(6, 2);
      x.allocate();
      x.run();
      Check.due("kind " + kind + " of " + a + " and " + b, x.output(0), due);
    }
  }

  /** "the others compute theirs from the values of a and b, as 32-bit integers that wrap around" */
  private static void resultsThatWrapAround() {
    result(1, MAX, 1, MIN);
    result(1, MAX, MAX, -2);
    result(1, MIN, -1, MAX);
    result(1, MIN, MIN, 0);
    result(1, MIN, MAX, -1);
    result(2, MIN, 1, MAX);
    result(2, 0, MIN, MIN);
    result(2, MAX, -1, MIN);
    result(2, MAX, MIN, -1);
    result(2, 3, 5, -2);
    result(3, MIN, -1, MIN);
    result(3, MIN, MIN, 0);
    result(3, MAX, MAX, 1);
    result(3, MAX, 2, -2);
    result(3, 65536, 65536, 0);
    result(3, 65536, 32768, MIN);
    result(3, 46341, 46341, -2147479015);
    result(3, -5, 7, -35);
    result(4, MIN, -1, MAX);
    result(4, MIN, MAX, -1);
    result(4, -1, -1, 0);
    result(4, 12, 10, 6);
  }

  /** As above: what has wrapped around comes back from a slot unchanged. */
  private static void wrappedResultsThroughSlots() {
    RegisterAllocator x = Check.code(2, "#2147483647 #2 *0,1 +0,1 -2,0 ^3,0 out5 out4 out3 out2");
    x.allocate();
    Check.due("some values go to slots", x.slots() > 0, true);
    x.run();
    Check.due("outputs", Check.outputs(x), "-2 2147483647 -2147483647 -2");
  }

  /** "COPY has the value of a." */
  private static void copyHasTheValue() {
    RegisterAllocator x = Check.code(2, "#-2147483648 copy0 copy1 out2 out0 out1");
    x.allocate();
    x.run();
    Check.due("outputs", Check.outputs(x), MIN + " " + MIN + " " + MIN);
  }

  /** "Returns the number of outputs": none, and as many as there can be. */
  private static void numberOfOutputs() {
    for (int outs = 0; outs <= 59; outs++) {
      RegisterAllocator x = Check.code(4, "#6" + " out0".repeat(outs));
      x.allocate();
      Check.due("run() with " + outs + " OUTs", x.run(), outs);
      for (int index = 0; index < outs; index++) {
        Check.due("output(" + index + ")", x.output(index), 6);
      }
      int past = outs;
      Check.refused(x, "output(" + outs + ")", INDEX, () -> x.output(past));
    }
  }

  /** "Executes the steps of the allocation, with registers and slots that are 0 at first": each run anew. */
  private static void zeroAtFirst() {
    RegisterAllocator x = Check.code(2, "#3 copy0 #4 *1,2 +3,1 out3 out4 out2 out1");
    x.allocate();
    for (int run = 0; run < 3; run++) {
      Check.due("run()", x.run(), 4);
      Check.due("outputs of a run", Check.outputs(x), "12 15 4 3");
    }
    x.allocate();
    Check.due("run() of an allocation that is made again", x.run(), 4);
    Check.due("outputs", Check.outputs(x), "12 15 4 3");
  }

  /** "IllegalStateException if there is no allocation", though there has been one, and a run. */
  private static void noAllocation() {
    RegisterAllocator x = Check.code(2, "#3 out0");
    Check.refused(x, "run() before allocate()", STATE, x::run);
    RegisterAllocator fresh = new RegisterAllocator();
    Check.refused(fresh, "run() of a new object", STATE, fresh::run);
    x.allocate();
    x.run();
    x.change(0, 5);
    Check.refused(x, "run() behind a change", STATE, x::run);
    Check.due("the output stays behind a run that throws", x.output(0), 3);
  }

  /** "an output of the latest run": those of the runs before it are gone, and none comes without a run. */
  private static void latestRunAlone() {
    RegisterAllocator x = Check.code(4, "#3 #4 out0 out1 out0");
    x.allocate();
    Check.refused(x, "output(0) before a run", INDEX, () -> x.output(0));
    x.run();
    Check.due("outputs of three OUTs", Check.outputs(x), "3 4 3");
    x.change(0, 9);
    x.cut(1);
    x.allocate();
    Check.due("outputs before the next run", Check.outputs(x), "3 4 3");
    x.run();
    Check.due("outputs of two OUTs", Check.outputs(x), "9 4");
    Check.refused(x, "output(2), which the run before had", INDEX, () -> x.output(2));
    x.cut(4);
    x.allocate();
    Check.due("run() without code", x.run(), 0);
    Check.refused(x, "output(0) behind a run without outputs", INDEX, () -> x.output(0));
  }

  /** "IndexOutOfBoundsException if there is no such output" */
  private static void outputsFirstAndLast() {
    RegisterAllocator x = Check.code(4, "#-3 #4 out0 out1");
    for (int index : new int[] {-1, 0, MIN, MAX}) {
      Check.refused(x, "output(" + index + ") before a run", INDEX, () -> x.output(index));
    }
    x.allocate();
    x.run();
    Check.due("output(0), the first", x.output(0), -3);
    Check.due("output(1), the last", x.output(1), 4);
    for (int index : new int[] {-1, 2, 3, 59, 60, MIN, MAX}) {
      Check.refused(x, "output(" + index + ")", INDEX, () -> x.output(index));
    }
  }

  /** The numbers that are told, mixed without a limit, and cut to 64 bits at the end alone. */
  private static long mixed(List<Integer> numbers) {
    BigInteger d = BigInteger.valueOf(83);
    for (int number : numbers) {
      d = d.multiply(BigInteger.valueOf(31)).add(BigInteger.valueOf(number));
    }
    return d.longValue();
  }

  private static List<Integer> codeOf(RegisterAllocator x, int registers) {
    List<Integer> numbers = new ArrayList<>(List.of(registers, x.size()));
    for (int i = 0; i < x.size(); i++) {
      numbers.add(x.kind(i));
    }
    return numbers;
  }

  private static List<Integer> stepsOf(RegisterAllocator x) {
    List<Integer> numbers = new ArrayList<>(List.of(Check.stepsIn(x)));
    for (int step = 0; step < Check.stepsIn(x); step++) {
      for (int what = 0; what <= 3; what++) {
        numbers.add(x.step(step, what));
      }
    }
    return numbers;
  }

  /** "the number of registers and of instructions ...; the number of outputs of the latest run, and the outputs" */
  private static void digestOfLittle() {
    RegisterAllocator x = new RegisterAllocator();
    Check.due("digest() of a new object", x.digest(), mixed(List.of(4, 0, 0)));
    x.setRegisters(2);
    Check.due("digest() with 2 registers", x.digest(), mixed(List.of(2, 0, 0)));
    x.setRegisters(8);
    Check.due("digest() with 8 registers", x.digest(), mixed(List.of(8, 0, 0)));
    x.constant(5);
    Check.due("digest() with a CONST", x.digest(), mixed(List.of(8, 1, 0, 0)));
    x.pass(6, 0);
    Check.due("digest() with an OUT", x.digest(), mixed(List.of(8, 2, 0, 6, 0)));
    x.change(0, 6);
    Check.due("digest() with another int", x.digest(), mixed(List.of(8, 2, 0, 6, 0)));
  }

  /** "if there is an allocation, the number of steps, and the four numbers of each step" */
  private static void digestWithAndWithoutAllocation() {
    RegisterAllocator x = new RegisterAllocator();
    x.allocate();
    Check.due("digest() with an allocation without steps", x.digest(), mixed(List.of(4, 0, 0, 0)));
    x.run();
    Check.due("digest() behind a run without outputs", x.digest(), mixed(List.of(4, 0, 0, 0)));
    x.constant(5);
    x.pass(6, 0);
    x.allocate();
    Check.due("digest() with an allocation", x.digest(), mixed(List.of(4, 2, 0, 6, 2, 0, 0, 5, -1, 6, 0, -1, -1, 0)));
    x.run();
    Check.due("digest() behind a run", x.digest(), mixed(List.of(4, 2, 0, 6, 2, 0, 0, 5, -1, 6, 0, -1, -1, 1, 5)));
    x.cut(0);
    Check.due("digest() without an allocation: outputs alone", x.digest(), mixed(List.of(4, 2, 0, 6, 1, 5)));
    x.cut(2);
    Check.due("digest() without code: outputs alone", x.digest(), mixed(List.of(4, 0, 1, 5)));
    x.allocate();
    x.run();
    Check.due("digest() behind a run without outputs again", x.digest(), mixed(List.of(4, 0, 0, 0)));
  }

  /** "d becomes d * 31 + x, which wraps around as a 64-bit integer": the full code, with steps and outputs. */
  private static void digestWrapsAround() {
    RegisterAllocator x = new RegisterAllocator();
    x.setRegisters(3);
    x.constant(MAX);
    for (int i = 1; i < 30; i++) {
      x.operate(1 + i % 4, i - 1, i / 2);
    }
    for (int i = 30; i < 60; i++) {
      x.pass(6, 59 - i);
    }
    List<Integer> code = codeOf(x, 3);
    List<Integer> numbers = new ArrayList<>(code);
    numbers.add(0);
    Check.due("digest() of the full code", x.digest(), mixed(numbers));
    x.allocate();
    Check.due("run()", x.run(), 30);
    numbers = new ArrayList<>(code);
    numbers.addAll(stepsOf(x));
    numbers.add(30);
    for (int index = 0; index < 30; index++) {
      numbers.add(x.output(index));
    }
    Check.due("digest() of the full code behind a run", x.digest(), mixed(numbers));
  }

  /** As above: numbers below 0 are added as they are. */
  private static void digestOfNegativeNumbers() {
    RegisterAllocator x = Check.code(2, "#-2147483648 out0 #-1 out2");
    x.allocate();
    x.run();
    Check.due("digest()", x.digest(), mixed(List.of(2, 4, 0, 6, 0, 6, 4, 0, 0, MIN, -1, 6, 0, -1, -1, 0, 0, -1, -1,
        6, 0, -1, -1, 2, MIN, -1)));
  }

  /** "An object is used for at most 512 calls": the last of them answers as it is due. */
  private static void call512() {
    RegisterAllocator x = new RegisterAllocator();
    for (int call = 1; call <= 60; call++) {
      Check.due("constant", x.constant(call), call - 1);
    }
    for (int call = 61; call <= MOST_CALLS - 5; call++) {
      switch ((call - 61) % 4) {
        case 0 -> Check.due("cut(1)", x.cut(1), 59);
        case 1 -> Check.due("pass(6, 58)", x.pass(6, 58), 59);
        case 2 -> Check.due("constant as the 61st", Check.outcome(() -> x.constant(1)), "throws." + STATE);
        default -> Check.due("kind(60)", Check.outcome(() -> x.kind(60)), "throws." + INDEX);
      }
    }
    Check.due("call 508: cut(1)", x.cut(1), 59);
    Check.due("call 509: pass(6, 57)", x.pass(6, 57), 59);
    Check.due("call 510: allocate()", x.allocate(), 2);
    Check.due("call 511: run()", x.run(), 1);
    Check.due("call 512: output(0)", x.output(0), 58);
  }
}
