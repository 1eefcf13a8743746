/** Each sentence that names a boundary case, in "Code" of the description and in promises 1 to 11. */
public final class CodeEdgeTest {
  private static final int MIN = Integer.MIN_VALUE;
  private static final int MAX = Integer.MAX_VALUE;
  private static final String INDEX = "IndexOutOfBoundsException";
  private static final String ARGUMENT = "IllegalArgumentException";
  private static final String STATE = "IllegalStateException";

  public static void main(String[] args) {
    numberedFrom0ToAtMost60();
    earlierInstructionsPerhapsTheSame();
    kindsJustInsideAndJustOutside();
    neverOuts();
    anyInt();
    outCounts();
    countsThroughAllTheCode();
    usesAreByInstructionsThatCount();
    nextUseFromEachNumber();
    nextUseAtTheEndsOfTheCode();
    aliveBehindItsOwnInstruction();
    aliveUpToTheLastUse();
    pressureOfManyValues();
    changeFirstAndLast();
    changeCountsNothing();
    cutNothingSomeAndAll();
    cutAndAppendAgain();
    oneTooSmallAndOneTooLarge();
    emptyCode();
    Check.end();
  }

  /** "Instructions are numbered from 0 in their order; there are at most 60." */
  private static void numberedFrom0ToAtMost60() {
    for (int last = 0; last < 3; last++) {
      RegisterAllocator x = new RegisterAllocator();
      Check.due("number of the first", x.constant(0), 0);
      for (int i = 1; i < 59; i++) {
        Check.due("number of the next", x.operate(1, i - 1, 0), i);
        Check.due("size() behind it", x.size(), i + 1);
      }
      int sixtieth = last == 0 ? x.constant(1) : last == 1 ? x.operate(4, 58, 58) : x.pass(6, 58);
      Check.due("number of the 60th", sixtieth, 59);
      Check.due("size() of the full code", x.size(), 60);
      Check.refused(x, "constant as the 61st", STATE, () -> x.constant(0));
      Check.refused(x, "operate as the 61st", STATE, () -> x.operate(1, 0, 0));
      Check.refused(x, "pass(5) as the 61st", STATE, () -> x.pass(5, 0));
      Check.refused(x, "pass(6) as the 61st", STATE, () -> x.pass(6, 0));
      Check.due("kind(59)", x.kind(59), last == 0 ? 0 : last == 1 ? 4 : 6);
    }
  }

  /** "two earlier instructions a and b (perhaps the same)": the first, the last, and none that is not yet there. */
  private static void earlierInstructionsPerhapsTheSame() {
    RegisterAllocator x = new RegisterAllocator();
    Check.refused(x, "operate of itself as the first", INDEX, () -> x.operate(1, 0, 0));
    Check.refused(x, "pass of itself as the first", INDEX, () -> x.pass(5, 0));
    x.constant(4);
    Check.due("operate of the only one twice", x.operate(1, 0, 0), 1);
    Check.due("operate of the last and the first", x.operate(2, 1, 0), 2);
    Check.due("operate of the first and the last", x.operate(3, 0, 2), 3);
    Check.refused(x, "operate of itself as a", INDEX, () -> x.operate(1, 4, 0));
    Check.refused(x, "operate of itself as b", INDEX, () -> x.operate(1, 0, 4));
    Check.refused(x, "pass of itself", INDEX, () -> x.pass(6, 4));
    Check.due("pass of the last", x.pass(5, 3), 4);
    Check.due("pass of the first", x.pass(6, 0), 5);
  }

  /** "kind: its kind, 1 to 4" and "its kind, 5 or 6". */
  private static void kindsJustInsideAndJustOutside() {
    RegisterAllocator x = Check.code(4, "#9 #8");
    for (int kind : new int[] {0, 5, 6, 7, -1, MIN, MAX}) {
      Check.refused(x, "operate(" + kind + ", 0, 1)", ARGUMENT, () -> x.operate(kind, 0, 1));
    }
    for (int kind : new int[] {4, 7, 1, 0, -1, MIN, MAX}) {
      Check.refused(x, "pass(" + kind + ", 0)", ARGUMENT, () -> x.pass(kind, 0));
    }
    x.operate(1, 0, 1);
    x.operate(4, 0, 1);
    x.pass(5, 0);
    x.pass(6, 0);
    Check.due("kinds", "" + x.kind(2) + x.kind(3) + x.kind(4) + x.kind(5), "1456");
  }

  /** "The instructions a and b are never OUTs." */
  private static void neverOuts() {
    RegisterAllocator x = Check.code(4, "#9 out0 copy0 out2");
    for (int out = 1; out <= 3; out += 2) {
      int of = out;
      for (int kind = 1; kind <= 4; kind++) {
        int with = kind;
        Check.refused(x, "operate of an OUT as a", INDEX, () -> x.operate(with, of, 0));
        Check.refused(x, "operate of an OUT as b", INDEX, () -> x.operate(with, 2, of));
        Check.refused(x, "operate of an OUT twice", INDEX, () -> x.operate(with, of, of));
      }
      Check.refused(x, "COPY of an OUT", INDEX, () -> x.pass(5, of));
      Check.refused(x, "OUT of an OUT", INDEX, () -> x.pass(6, of));
    }
    x.cut(1);
    x.constant(1);
    Check.due("COPY of what stands where an OUT was", x.pass(5, 3), 4);
  }

  /** "0 CONST of an int": the smallest and the largest too. */
  private static void anyInt() {
    for (int value : new int[] {MIN, MIN + 1, -1, 0, 1, MAX - 1, MAX}) {
      RegisterAllocator x = new RegisterAllocator();
      x.constant(value);
      x.pass(6, 0);
      x.allocate();
      Check.due("the int of the SET", x.step(0, 2), value);
      x.run();
      Check.due("the output of the CONST", x.output(0), value);
      Check.due("change to the same", x.change(0, value), value);
      Check.due("change to the opposite", x.change(0, ~value), value);
      Check.due("the int before", x.change(0, 0), ~value);
    }
  }

  /** "An instruction counts if it is an OUT, or if its value is used by a later instruction that counts." */
  private static void outCounts() {
    RegisterAllocator x = Check.code(4, "#1 #2 copy0 +0,2 *3,3 out0");
    String counts = "";
    for (int i = 0; i < 6; i++) {
      counts += x.counts(i) ? "y" : "n";
    }
    Check.due("the OUT and what it uses alone", counts, "ynnnny");
    x.pass(6, 4);
    Check.due("through operations", "" + x.counts(4) + x.counts(3) + x.counts(2) + x.counts(1), "truetruetruefalse");
    Check.due("an OUT of a CONST alone", Check.code(4, "#1 out0").counts(1), true);
    Check.due("a CONST that is used by an OUT alone", Check.code(4, "#1 out0").counts(0), true);
    Check.due("a CONST that is not used", Check.code(4, "#1").counts(0), false);
    Check.due("a CONST that is used by a COPY alone", Check.code(4, "#1 copy0").counts(0), false);
  }

  /** As above: over the whole of the longest code. */
  private static void countsThroughAllTheCode() {
    RegisterAllocator x = new RegisterAllocator();
    x.constant(1);
    for (int i = 1; i < 59; i++) {
      x.operate(1 + i % 4, i - 1, i - 1);
    }
    for (int i = 0; i < 59; i++) {
      Check.due("counts(" + i + ") without an OUT", x.counts(i), false);
    }
    x.pass(6, 58);
    for (int i = 0; i < 60; i++) {
      Check.due("counts(" + i + ") with an OUT at the end", x.counts(i), true);
    }
    x.cut(1);
    x.pass(6, 57);
    Check.due("counts(58) with an OUT of the one before it", x.counts(58), false);
    Check.due("counts(57) with an OUT of it", x.counts(57), true);
    Check.due("counts(0) with an OUT of 57", x.counts(0), true);
  }

  /** "Uses are uses by instructions that count." */
  private static void usesAreByInstructionsThatCount() {
    RegisterAllocator x = Check.code(4, "#1 copy0 +1,0 out0");
    Check.due("nextUse(0, 0): 1 and 2 do not count", x.nextUse(0, 0), 3);
    Check.due("nextUse(1, 0): 2 does not count", x.nextUse(1, 0), -1);
    Check.due("pressure(1): 1 is not alive", x.pressure(1), 1);
    x.pass(6, 2);
    Check.due("nextUse(0, 0): 1 and 2 count", x.nextUse(0, 0), 1);
    Check.due("nextUse(0, 2), as b", x.nextUse(0, 2), 2);
    Check.due("nextUse(1, 0), as a", x.nextUse(1, 0), 2);
    Check.due("pressure(1): 0 and 1 are alive", x.pressure(1), 2);
  }

  /** "the first instruction that uses the value of i and is not before from; -1 if there is none" */
  private static void nextUseFromEachNumber() {
    RegisterAllocator x = Check.code(4, "#1 #2 out0 copy0 -3,0 -0,3 out4 out0 out5");
    int[] due = {2, 2, 2, 3, 4, 5, 7, 7, -1, -1, -1};
    for (int from = 0; from < due.length; from++) {
      Check.due("nextUse(0, " + from + ")", x.nextUse(0, from), due[from]);
    }
    for (int from = 0; from < due.length; from++) {
      Check.due("nextUse(1, " + from + "), which is not used", x.nextUse(1, from), -1);
      Check.due("nextUse(2, " + from + ") of an OUT", x.nextUse(2, from), -1);
    }
    for (int from : new int[] {-1, -5, MIN}) {
      Check.due("nextUse(0, " + from + "): none is before from", x.nextUse(0, from), 2);
      Check.due("nextUse(1, " + from + ")", x.nextUse(1, from), -1);
    }
    for (int from : new int[] {59, 60, 61, MAX}) {
      Check.due("nextUse(0, " + from + "): all are before from", x.nextUse(0, from), -1);
    }
    Check.refused(x, "nextUse(-1, -1)", INDEX, () -> x.nextUse(-1, -1));
    Check.refused(x, "nextUse(9, 0)", INDEX, () -> x.nextUse(9, 0));
    Check.refused(x, "nextUse(MIN, MAX)", INDEX, () -> x.nextUse(MIN, MAX));
    Check.refused(x, "nextUse(MAX, 0)", INDEX, () -> x.nextUse(MAX, 0));
  }

  /** As above: the uses by the first and the last instruction that can use a value. */
  private static void nextUseAtTheEndsOfTheCode() {
    RegisterAllocator x = new RegisterAllocator();
    x.constant(1);
    x.pass(6, 0);
    for (int i = 2; i < 59; i++) {
      x.constant(i);
    }
    x.pass(6, 0);
    Check.due("nextUse(0, 0)", x.nextUse(0, 0), 1);
    Check.due("nextUse(0, 1)", x.nextUse(0, 1), 1);
    Check.due("nextUse(0, 2)", x.nextUse(0, 2), 59);
    Check.due("nextUse(0, 59)", x.nextUse(0, 59), 59);
    Check.due("nextUse(0, 60)", x.nextUse(0, 60), -1);
    Check.due("nextUse(59, 0)", x.nextUse(59, 0), -1);
    x.cut(1);
    Check.due("nextUse(0, 2) behind cut(1)", x.nextUse(0, 2), -1);
  }

  /** "A value is alive behind an instruction if its own instruction is this one or an earlier one" */
  private static void aliveBehindItsOwnInstruction() {
    RegisterAllocator x = Check.code(4, "#1 #2 #3 out2 out1 out0");
    Check.due("pressure(0): of 0 to 2, 0 alone is not later", x.pressure(0), 1);
    Check.due("pressure(1)", x.pressure(1), 2);
    Check.due("pressure(2)", x.pressure(2), 3);
    Check.due("pressure of a COPY that is used just behind it", Check.code(4, "#1 copy0 out1").pressure(1), 1);
    Check.due("pressure of an OUT, which has no value", Check.code(4, "#1 out0 out0").pressure(1), 1);
  }

  /** "and it is used by a later one": not by this one, and not by one that does not count. */
  private static void aliveUpToTheLastUse() {
    RegisterAllocator x = Check.code(4, "#1 #2 out0 out1 #3");
    int[] due = {1, 2, 1, 0, 0};
    for (int i = 0; i < due.length; i++) {
      Check.due("pressure(" + i + ")", x.pressure(i), due[i]);
    }
    x.operate(1, 0, 4);
    Check.due("pressure(4) before a user that does not count", x.pressure(4), 0);
    Check.due("pressure(5)", x.pressure(5), 0);
    x.pass(6, 5);
    int[] behind = {1, 2, 2, 1, 2, 1, 0};
    for (int i = 0; i < behind.length; i++) {
      Check.due("pressure(" + i + ") with an OUT of 5", x.pressure(i), behind[i]);
    }
    Check.due("pressure of a value that is used twice by one", Check.code(4, "#1 +0,0 out1").pressure(0), 1);
    Check.refused(x, "pressure(-1)", INDEX, () -> x.pressure(-1));
    Check.refused(x, "pressure(7)", INDEX, () -> x.pressure(7));
    Check.refused(x, "pressure(MAX)", INDEX, () -> x.pressure(MAX));
    Check.refused(x, "pressure(MIN)", INDEX, () -> x.pressure(MIN));
  }

  /** As above: as many values as can be alive at once, more than there are registers. */
  private static void pressureOfManyValues() {
    RegisterAllocator x = new RegisterAllocator();
    for (int i = 0; i < 30; i++) {
      x.constant(i);
    }
    for (int i = 0; i < 30; i++) {
      x.pass(6, i);
    }
    for (int i = 0; i < 60; i++) {
      Check.due("pressure(" + i + ")", x.pressure(i), i < 30 ? i + 1 : 59 - i);
    }
  }

  /** "Changes the int of a CONST. Returns the int before." */
  private static void changeFirstAndLast() {
    RegisterAllocator x = Check.code(4, "#1 +0,0 -0,0 *0,0 ^0,0 copy0 out0 #-7");
    Check.due("change of the first", x.change(0, 2), 1);
    Check.due("change of the last", x.change(7, MAX), -7);
    Check.due("change of the first again", x.change(0, 3), 2);
    Check.due("change of the last again", x.change(7, 0), MAX);
    for (int i = 1; i <= 6; i++) {
      int at = i;
      Check.refused(x, "change of kind " + x.kind(i), ARGUMENT, () -> x.change(at, 1));
    }
    for (int i : new int[] {-1, 8, 59, 60, MIN, MAX}) {
      Check.refused(x, "change(" + i + ", 1)", INDEX, () -> x.change(i, 1));
    }
  }

  /** A change of an int changes nothing else: not the other ints, not what counts. */
  private static void changeCountsNothing() {
    RegisterAllocator x = Check.code(4, "#1 #1 out0 copy1");
    String before = Check.state(x);
    x.change(0, 6);
    x.change(1, 7);
    Check.due("what is seen behind two changes", Check.state(x), before);
    Check.due("the int of 0 before", x.change(0, 0), 6);
    Check.due("the int of 1 before", x.change(1, 0), 7);
  }

  /** "IllegalArgumentException if many is negative, or greater than the number of instructions" */
  private static void cutNothingSomeAndAll() {
    RegisterAllocator x = Check.code(4, "#1 #2 out0");
    Check.refused(x, "cut(4)", ARGUMENT, () -> x.cut(4));
    Check.refused(x, "cut(-1)", ARGUMENT, () -> x.cut(-1));
    Check.refused(x, "cut(MIN)", ARGUMENT, () -> x.cut(MIN));
    Check.refused(x, "cut(MAX)", ARGUMENT, () -> x.cut(MAX));
    Check.due("cut(0)", x.cut(0), 3);
    Check.due("cut(1)", x.cut(1), 2);
    Check.due("counts(0) without its OUT", x.counts(0), false);
    Check.due("cut(2), all", x.cut(2), 0);
    Check.due("size() behind it", x.size(), 0);
    Check.due("cut(0) of the empty code", x.cut(0), 0);
    Check.refused(x, "cut(1) of the empty code", ARGUMENT, () -> x.cut(1));
    RegisterAllocator full = Check.code(4, "#1" + " copy0".repeat(59));
    Check.refused(full, "cut(61) of the full code", ARGUMENT, () -> full.cut(61));
    Check.due("cut(60) of the full code", full.cut(60), 0);
  }

  /** "Removes the last instructions": what is appended then has nothing of what was cut. */
  private static void cutAndAppendAgain() {
    RegisterAllocator x = Check.code(4, "#1 #2" + " +0,1".repeat(57) + " out58");
    Check.due("cut(59)", x.cut(59), 1);
    Check.due("nextUse(0, 0)", x.nextUse(0, 0), -1);
    Check.due("counts(0)", x.counts(0), false);
    for (int i = 1; i < 60; i++) {
      Check.due("constant again", x.constant(100 + i), i);
      Check.due("kind of it", x.kind(i), 0);
      Check.due("counts of it", x.counts(i), false);
      Check.due("the int of it", x.change(i, 0), 100 + i);
    }
    Check.due("the int of the first, which stayed", x.change(0, 0), 1);
    Check.refused(x, "constant as the 61st", STATE, () -> x.constant(0));
  }

  /** "IndexOutOfBoundsException if there is no such instruction", for each length of the code. */
  private static void oneTooSmallAndOneTooLarge() {
    RegisterAllocator x = new RegisterAllocator();
    for (int size = 0; size <= 60; size++) {
      for (int i : new int[] {-1, size, size + 1, 60, MIN, MAX}) {
        String told = " with " + size + " instructions";
        Check.due("kind(" + i + ")" + told, Check.outcome(() -> x.kind(i)), "throws." + INDEX);
        Check.due("counts(" + i + ")" + told, Check.outcome(() -> x.counts(i)), "throws." + INDEX);
        Check.due("nextUse(" + i + ", 0)" + told, Check.outcome(() -> x.nextUse(i, 0)), "throws." + INDEX);
        Check.due("pressure(" + i + ")" + told, Check.outcome(() -> x.pressure(i)), "throws." + INDEX);
        Check.due("change(" + i + ", 1)" + told, Check.outcome(() -> x.change(i, 1)), "throws." + INDEX);
        Check.due("operate(1, " + i + ", 0)" + told, Check.outcome(() -> x.operate(1, i, 0)), "throws." + INDEX);
        Check.due("operate(1, 0, " + i + ")" + told, Check.outcome(() -> x.operate(1, 0, i)), "throws." + INDEX);
        Check.due("pass(5, " + i + ")" + told, Check.outcome(() -> x.pass(5, i)), "throws." + INDEX);
      }
      if (size > 0) {
        Check.due("kind(0)", x.kind(0), 0);
        Check.due("kind of the last", x.kind(size - 1), 0);
        Check.due("nextUse of the last", x.nextUse(size - 1, 0), -1);
        Check.due("pressure of the last", x.pressure(size - 1), 0);
        Check.due("change of the last", x.change(size - 1, size), size - 1);
      }
      if (size < 60) {
        x.constant(size);
      }
    }
  }

  /** "Creates an allocator without code." */
  private static void emptyCode() {
    for (int way = 0; way < 2; way++) {
      RegisterAllocator x = way == 0 ? new RegisterAllocator() : Check.code(4, "#1 copy0 out1");
      if (way == 1) {
        x.cut(3);
      }
      Check.due("size()", x.size(), 0);
      Check.due("isAllocated()", x.isAllocated(), false);
      Check.due("comfortable()", x.comfortable(), 2);
      Check.due("allocate()", x.allocate(), 0);
      Check.due("slots()", x.slots(), 0);
      Check.due("pieceCount()", x.pieceCount(), 0);
      Check.due("run()", x.run(), 0);
      for (int kind = 0; kind <= 8; kind++) {
        Check.due("stepCount(" + kind + ")", x.stepCount(kind), 0);
      }
      Check.refused(x, "step(0, 0)", INDEX, () -> x.step(0, 0));
      Check.refused(x, "piece(0, 0)", INDEX, () -> x.piece(0, 0));
      Check.refused(x, "output(0)", INDEX, () -> x.output(0));
      Check.due("setRegisters(4), 4 at first", x.setRegisters(4), 4);
      Check.due("constant(0), the first", x.constant(0), 0);
    }
  }
}
