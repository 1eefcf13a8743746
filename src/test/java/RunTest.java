/** Promises 21 to 23: runs, outputs and the digest. */
public final class RunTest {
  private static final String INDEX = "IndexOutOfBoundsException";
  private static final String STATE = "IllegalStateException";

  public static void main(String[] args) {
    promise21Run();
    promise21RunWrapsAround();
    promise22OutputsStay();
    promise23Digest();
    Check.end();
  }

  private static void promise21Run() {
    RegisterAllocator x = Check.code(2, "#100 #7 copy0 copy1 +2,3 -2,3 *2,3 ^2,3 out7 out6 out5 out4 out3 out2 out0");
    Check.refused(x, "run() without an allocation", STATE, x::run);
    for (int registers = 2; registers <= 8; registers++) {
      x.setRegisters(registers);
      x.allocate();
      String steps = Check.steps(x);
      Check.due("run()", x.run(), 7);
      Check.due("outputs with " + registers + " registers", Check.outputs(x), "99 700 93 107 7 100 100");
      Check.due("run() again", x.run(), 7);
      Check.due("outputs again", Check.outputs(x), "99 700 93 107 7 100 100");
      Check.due("steps behind runs", Check.steps(x), steps);
    }
  }

  private static void promise21RunWrapsAround() {
    RegisterAllocator x = Check.code(4, "#2147483647 #-2147483648 +0,0 -1,0 *0,0 ^0,1 +1,1 *1,0 out2 out3 out4 out5 out6 out7");
    x.allocate();
    x.run();
    Check.due("outputs", Check.outputs(x), "-2 1 1 -1 0 -2147483648");
  }

  private static void promise22OutputsStay() {
    RegisterAllocator x = Check.code(4, "#5 out0 out0");
    Check.refused(x, "output(0) before a run", INDEX, () -> x.output(0));
    x.allocate();
    Check.refused(x, "output(0) before a run, with an allocation", INDEX, () -> x.output(0));
    x.run();
    Check.due("output(1)", x.output(1), 5);
    Check.refused(x, "output(2)", INDEX, () -> x.output(2));
    Check.refused(x, "output(-1)", INDEX, () -> x.output(-1));
    Check.refused(x, "output(MAX)", INDEX, () -> x.output(Integer.MAX_VALUE));
    x.change(0, 6);
    Check.refused(x, "run() behind a change", STATE, x::run);
    Check.due("outputs behind a run that throws", Check.outputs(x), "5 5");
    x.cut(3);
    x.allocate();
    Check.due("outputs behind cut and allocate", Check.outputs(x), "5 5");
    Check.due("run() without code", x.run(), 0);
    Check.refused(x, "output(0) behind a run without outputs", INDEX, () -> x.output(0));
  }

  private static void promise23Digest() {
    RegisterAllocator x = Check.code(3, "#-5 copy0 *0,1 out2");
    long code = ((((((83L * 31 + 3) * 31 + 4) * 31 + 0) * 31 + 5) * 31 + 3) * 31 + 6);
    Check.due("digest() without an allocation", x.digest(), code * 31);
    x.allocate();
    long steps = code * 31 + 4;
    int[] numbers = {0, 0, -5, -1, 5, 1, 0, -1, 3, 0, 0, 1, 6, 0, -1, -1};
    for (int number : numbers) {
      steps = steps * 31 + number;
    }
    Check.due("digest() with an allocation", x.digest(), steps * 31);
    x.run();
    Check.due("digest() behind a run", x.digest(), (steps * 31 + 1) * 31 + 25);
    x.setRegisters(8);
    Check.due("digest() behind setRegisters", x.digest(), Check.digestOf(x, 8));
    x.cut(1);
    Check.due("digest() behind cut", x.digest(), Check.digestOf(x, 8));
    x.change(0, 77);
    Check.due("digest(), ints are not in it", x.digest(), Check.digestOf(x, 8));
  }
}
