import java.util.function.Consumer;

/**
 * Each sentence that names a boundary case, in "Allocation" and "Pieces" of the description and in
 * promises 12 to 20. The steps and pieces that are due are worked out by hand.
 */
public final class AllocationEdgeTest {
  private static final int MIN = Integer.MIN_VALUE;
  private static final int MAX = Integer.MAX_VALUE;
  private static final String INDEX = "IndexOutOfBoundsException";
  private static final String ARGUMENT = "IllegalArgumentException";
  private static final String STATE = "IllegalStateException";

  public static void main(String[] args) {
    twoToEightRegisters();
    registersFrom0();
    oneValueMoreThanRegisters();
    slotsFrom0AsManyAsNeeded();
    constsMakeNoSteps();
    firstAndLastInstruction();
    manySteps();
    aThenBIfInNoRegister();
    leavesWithTheLastUseThatCounts();
    slotBecomesFree();
    registerOfAThenOfB();
    smallestFreeRegister();
    losesInStep1();
    losesInStep3();
    latestNextUse();
    ofSeveralWithOneNextUse();
    keepsTheSlot();
    pieceBeginsAndEnds();
    noTwoPiecesAtOnce();
    keptUntilTheNextCall();
    keptBehindCallsThatTell();
    madeAgain();
    stepNumbers();
    stepsFirstAndLast();
    stepCountFirstAndLastKind();
    slotsOfNoneAndOfMany();
    piecesFirstAndLast();
    comfortableFrom2To8();
    comfortableStays();
    Check.end();
  }

  private static RegisterAllocator steps(String what, int registers, String code, String steps, String pieces) {
    RegisterAllocator x = Check.code(registers, code);
    Check.due(what + ": allocate()", x.allocate(), steps.split(", ").length);
    Check.due(what + ": steps", Check.steps(x), steps);
    if (!pieces.isEmpty()) {
      Check.due(what + ": pieces", Check.pieces(x), pieces);
    }
    return x;
  }

  /** A CONST, COPYs of it, and an OUT of each: as many values as COPYs are alive at once. */
  private static String copies(int many) {
    StringBuilder code = new StringBuilder("#1" + " copy0".repeat(many));
    for (int copy = 1; copy <= many; copy++) {
      code.append(" out").append(copy);
    }
    return code.toString();
  }

  /** "their number is 2 to 8 (4 at first)"; "IllegalArgumentException if registers is not 2 to 8" */
  private static void twoToEightRegisters() {
    RegisterAllocator x = new RegisterAllocator();
    int before = 4;
    for (int registers : new int[] {2, 8, 3, 7, 2, 2, 4, 5, 6, 8}) {
      Check.due("setRegisters(" + registers + ")", x.setRegisters(registers), before);
      before = registers;
    }
    for (int registers : new int[] {1, 9, 0, -1, -2, 10, 60, MIN, MAX}) {
      Check.refused(x, "setRegisters(" + registers + ")", ARGUMENT, () -> x.setRegisters(registers));
    }
    Check.due("setRegisters(4) behind refused calls", x.setRegisters(4), 8);
  }

  /** "There are registers, numbered from 0": with as many values as registers, each holds one. */
  private static void registersFrom0() {
    for (int registers = 2; registers <= 8; registers++) {
      RegisterAllocator x = Check.code(registers, copies(registers));
      x.allocate();
      StringBuilder due = new StringBuilder("SET 0 1");
      for (int register = 1; register < registers; register++) {
        due.append(", MOVE ").append(register).append(" 0");
      }
      due.append(", MOVE 0 0");
      for (int register = 1; register < registers; register++) {
        due.append(", OUT ").append(register);
      }
      Check.due("steps with " + registers + " registers and values", Check.steps(x), due + ", OUT 0");
    }
    RegisterAllocator first = new RegisterAllocator();
    first.constant(1);
    for (int copy = 1; copy <= 5; copy++) {
      first.pass(5, 0);
    }
    for (int copy = 1; copy <= 5; copy++) {
      first.pass(6, copy);
    }
    first.allocate();
    Check.due("a STORE for the fifth value: 4 registers at first", first.stepCount(8), 1);
  }

  /** "If there is none, a value loses its register": with one value more than registers. */
  private static void oneValueMoreThanRegisters() {
    steps("2 registers", 2, copies(3),
        "SET 0 1, MOVE 1 0, STORE 1 0, MOVE 1 0, MOVE 0 0, STORE 0 1, LOAD 0 0, OUT 0, OUT 1, LOAD 0 1, OUT 0",
        "0:0:0-4 1:1:1-2 2:1:3-8 3:0:4-5 1:0:6-7 3:0:9-10");
    for (int registers = 3; registers <= 8; registers++) {
      int last = registers - 1;
      StringBuilder due = new StringBuilder("SET 0 1");
      for (int register = 1; register <= last; register++) {
        due.append(", MOVE ").append(register).append(" 0");
      }
      due.append(", STORE ").append(last).append(" 0, MOVE ").append(last).append(" 0, MOVE 0 0");
      for (int register = 1; register < last; register++) {
        due.append(", OUT ").append(register);
      }
      due.append(", LOAD 1 0, OUT 1, OUT ").append(last).append(", OUT 0");
      steps(registers + " registers", registers, copies(registers + 1), due.toString(), "");
    }
  }

  /** "Slots of the memory are numbered from 0, as many as are needed." */
  private static void slotsFrom0AsManyAsNeeded() {
    RegisterAllocator x = Check.code(2, copies(29));
    x.allocate();
    Check.due("slots() of 29 values with 2 registers", x.slots(), 28);
    int slot = 0;
    for (int step = 0; step < Check.stepsIn(x); step++) {
      if (x.step(step, 0) == 8) {
        Check.due("the slot of STORE " + slot, x.step(step, 2), slot);
        slot++;
      }
    }
    Check.due("stepCount(8)", x.stepCount(8), 28);
    Check.due("stepCount(7)", x.stepCount(7), 28);
    x.run();
    Check.due("outputs", Check.outputs(x), "1 ".repeat(29).trim());
  }

  /** "The instructions that count are taken in order; CONSTs make no steps then." */
  private static void constsMakeNoSteps() {
    steps("CONSTs are set where they are used", 4, "#1 #2 copy1 out2 out0", "SET 0 2, MOVE 0 0, OUT 0, SET 0 1, OUT 0", "");
    Check.due("allocate() of one CONST", Check.code(2, "#1").allocate(), 0);
    Check.due("allocate() of 60 CONSTs", Check.code(8, "#1 ".repeat(60)).allocate(), 0);
    RegisterAllocator x = Check.code(2, "#1 copy0 +1,0 copy2");
    Check.due("allocate() where nothing counts", x.allocate(), 0);
    Check.due("pieceCount() where nothing counts", x.pieceCount(), 0);
    Check.due("slots() where nothing counts", x.slots(), 0);
    Check.due("run() where nothing counts", x.run(), 0);
    steps("what counts stands between what does not", 4, "#1 copy0 #2 copy0 out3 +3,3", "SET 0 1, MOVE 0 0, OUT 0", "");
  }

  /** The full code: a value of the first instruction that is used by the last. */
  private static void firstAndLastInstruction() {
    steps("60 instructions, 2 that count", 2, "#7" + " copy0".repeat(58) + " out0", "SET 0 7, OUT 0", "0:0:0-1");
    RegisterAllocator x = new RegisterAllocator();
    x.constant(3);
    for (int i = 1; i < 59; i++) {
      x.operate(1, i - 1, 0);
    }
    x.pass(6, 58);
    Check.due("allocate() of 60 instructions that count", x.allocate(), 60);
    Check.due("the first step", x.step(0, 0) + " " + x.step(0, 1) + " " + x.step(0, 2), "0 0 3");
    Check.due("the last step", x.step(59, 0) + " " + x.step(59, 1), "6 1");
    x.run();
    Check.due("output(0)", x.output(0), 3 * 59);
    Check.due("pieceCount()", x.pieceCount(), 59);
  }

  /** The full code with the fewest registers: nearly each instruction has two LOADs, a STORE and its own step. */
  private static void manySteps() {
    RegisterAllocator x = new RegisterAllocator();
    Model model = new Model();
    x.setRegisters(2);
    model.setRegisters(2);
    x.constant(1);
    model.constant(1);
    for (int i = 1; i < 58; i++) {
      if (i < 5) {
        x.pass(5, 0);
        model.pass(5, 0);
      } else {
        x.operate(1 + i % 4, i - 2, i - 4);
        model.operate(1 + i % 4, i - 2, i - 4);
      }
    }
    for (int i = 57; i > 55; i--) {
      x.pass(6, i);
      model.pass(6, i);
    }
    Check.due("allocate()", x.allocate(), 222);
    Check.due("allocate() of the model", model.allocate(), 222);
    for (int step = 0; step < 222; step++) {
      for (int what = 0; what <= 3; what++) {
        Check.due("step(" + step + ", " + what + ")", x.step(step, what), model.step(step, what));
      }
    }
    Check.due("pieceCount()", x.pieceCount(), 164);
    for (int piece = 0; piece < 164; piece++) {
      for (int what = 0; what <= 3; what++) {
        Check.due("piece(" + piece + ", " + what + ")", x.piece(piece, what), model.piece(piece, what));
      }
    }
    Check.due("slots()", x.slots(), model.slots());
    Check.due("run()", x.run(), model.run());
    Check.due("output(0)", x.output(0), model.output(0));
    Check.due("output(1)", x.output(1), model.output(1));
    Check.refused(x, "step(222, 0)", INDEX, () -> x.step(222, 0));
    Check.refused(x, "piece(164, 0)", INDEX, () -> x.piece(164, 0));
  }

  /** "For a, and then for b, if it is used and its value is in no register" */
  private static void aThenBIfInNoRegister() {
    steps("a before b", 4, "#1 #2 -1,0 out2", "SET 0 2, SET 1 1, SUB 0 0 1, OUT 0", "");
    steps("a alone", 4, "#1 copy0 #2 -2,1 out3", "SET 0 1, MOVE 0 0, SET 1 2, SUB 1 1 0, OUT 1", "");
    steps("b alone", 4, "#1 copy0 #2 -1,2 out3", "SET 0 1, MOVE 0 0, SET 1 2, SUB 0 0 1, OUT 0", "");
    steps("neither", 4, "#1 copy0 #2 copy2 -3,1 out4", "SET 0 1, MOVE 0 0, SET 1 2, MOVE 1 1, SUB 1 1 0, OUT 1", "");
    steps("a and b the same, once", 2, "#1 ^0,0 out1", "SET 0 1, XOR 0 0 0, OUT 0", "");
    steps("a CONST is set", 2, "#1 copy0 #2 copy2 #3 copy4 -1,0 out3 out5 out6",
        "SET 0 1, MOVE 1 0, SET 0 2, MOVE 0 0, STORE 0 0, SET 0 3, MOVE 0 0, STORE 0 1, SET 0 1, SUB 1 1 0, "
        + "LOAD 0 0, OUT 0, LOAD 0 1, OUT 0, OUT 1", "");
    steps("another value is loaded", 2, "#1 copy0 copy0 copy0 #9 -1,4 out5 out2 out3",
        "SET 0 1, MOVE 1 0, STORE 1 0, MOVE 1 0, MOVE 0 0, STORE 0 1, LOAD 0 0, STORE 1 2, SET 1 9, SUB 0 0 1, OUT 0, "
        + "LOAD 0 2, OUT 0, LOAD 0 1, OUT 0", "");
  }

  /** "A value that is used by this instruction, and by no later one, leaves its register" */
  private static void leavesWithTheLastUseThatCounts() {
    steps("later users that do not count", 4, "#1 copy0 out1 copy1 #5 out4", "SET 0 1, MOVE 0 0, OUT 0, SET 0 5, OUT 0", "");
    steps("a later user that counts", 4, "#1 copy0 out1 copy1 #5 out4 out3",
        "SET 0 1, MOVE 0 0, OUT 0, MOVE 0 0, SET 1 5, OUT 1, OUT 0", "");
    steps("used by the next one", 4, "#1 copy0 out1 out1 #5 out4", "SET 0 1, MOVE 0 0, OUT 0, OUT 0, SET 0 5, OUT 0", "");
    steps("a value that is not used by this one stays", 4, "#1 copy0 #5 out2 out1",
        "SET 0 1, MOVE 0 0, SET 1 5, OUT 1, OUT 0", "");
    steps("both leave at once", 4, "#1 #2 +0,1 #3 #4 +3,4 out2 out5",
        "SET 0 1, SET 1 2, ADD 0 0 1, SET 1 3, SET 2 4, ADD 1 1 2, OUT 0, OUT 1", "");
  }

  /** "its slot, if it has one, becomes free", and not before: the next STORE takes the smallest free slot. */
  private static void slotBecomesFree() {
    RegisterAllocator x = steps("free behind the last use", 2,
        "#1 copy0 copy0 copy0 out3 out2 out1 #2 copy7 copy7 copy7 out10 out9 out8",
        "SET 0 1, MOVE 1 0, STORE 1 0, MOVE 1 0, MOVE 0 0, OUT 0, OUT 1, LOAD 0 0, OUT 0, "
        + "SET 0 2, MOVE 1 0, STORE 1 0, MOVE 1 0, MOVE 0 0, OUT 0, OUT 1, LOAD 0 0, OUT 0", "");
    Check.due("slots() where one is taken twice", x.slots(), 1);
    RegisterAllocator y = steps("taken before the last use", 2,
        "#1 copy0 copy0 copy0 out3 out2 out1 #2 copy7 copy7 copy7 out10 out9 out8 out1",
        "SET 0 1, MOVE 1 0, STORE 1 0, MOVE 1 0, MOVE 0 0, OUT 0, OUT 1, LOAD 0 0, OUT 0, "
        + "SET 1 2, MOVE 0 1, STORE 0 1, MOVE 0 1, MOVE 1 1, OUT 1, OUT 0, LOAD 0 1, OUT 0, LOAD 0 0, OUT 0", "");
    Check.due("slots() where two are taken at once", y.slots(), 2);
  }

  /** "that of a, if a has just left it; otherwise that of b, if b has just left it; otherwise as said below" */
  private static void registerOfAThenOfB() {
    String code = "#1 copy0 #2 copy2 #3 copy4 out1 ";
    String before = "SET 0 1, MOVE 0 0, SET 1 2, MOVE 1 1, SET 2 3, MOVE 2 2, OUT 0, ";
    steps("a and b leave", 4, code + "-5,3 out7", before + "SUB 2 2 1, OUT 2", "");
    steps("b and a leave", 4, code + "-3,5 out7", before + "SUB 1 1 2, OUT 1", "");
    steps("a leaves", 4, code + "-5,3 out7 out3", before + "SUB 2 2 1, OUT 2, OUT 1", "");
    steps("b leaves", 4, code + "-3,5 out7 out3", before + "SUB 2 1 2, OUT 2, OUT 1", "");
    steps("none leaves", 4, code + "-3,5 out7 out3 out5", before + "SUB 0 1 2, OUT 0, OUT 1, OUT 2", "");
    steps("a of a COPY leaves", 4, code + "copy5 out7 out3", before + "MOVE 2 2, OUT 2, OUT 1", "");
    steps("a of a COPY stays", 4, code + "copy5 out7 out3 out5", before + "MOVE 0 2, OUT 0, OUT 1, OUT 2", "");
    steps("a is b and leaves", 4, code + "*5,5 out7 out3", before + "MUL 2 2 2, OUT 2, OUT 1", "");
    steps("a is b and stays", 4, code + "*5,5 out7 out3 out5", before + "MUL 0 2 2, OUT 0, OUT 1, OUT 2", "");
  }

  /** "the smallest register that holds no value": of several, with others between them. */
  private static void smallestFreeRegister() {
    steps("0 and 2 are free", 4, "#1 copy0 #2 copy2 #3 copy4 #4 copy6 out5 out1 #8 #9 +10,11 out12 out3 out7",
        "SET 0 1, MOVE 0 0, SET 1 2, MOVE 1 1, SET 2 3, MOVE 2 2, SET 3 4, MOVE 3 3, OUT 2, OUT 0, "
        + "SET 0 8, SET 2 9, ADD 0 0 2, OUT 0, OUT 1, OUT 3", "");
    steps("the greatest alone is free", 2, "#1 copy0 #2 out2 out1", "SET 0 1, MOVE 0 0, SET 1 2, OUT 1, OUT 0", "");
  }

  /** "in step 1 one that is not used by this instruction", though its next use is the latest. */
  private static void losesInStep1() {
    steps("a does not lose to b", 2, "#1 copy0 #2 copy2 #5 -1,4 out3 out5 out1",
        "SET 0 1, MOVE 0 0, SET 1 2, MOVE 1 1, STORE 1 0, SET 1 5, SUB 1 0 1, STORE 0 1, LOAD 0 0, OUT 0, OUT 1, "
        + "LOAD 0 1, OUT 0", "");
    steps("b does not lose to a", 2, "#1 copy0 #2 copy2 #5 -4,1 out3 out5 out1",
        "SET 0 1, MOVE 0 0, SET 1 2, MOVE 1 1, STORE 1 0, SET 1 5, SUB 1 1 0, STORE 0 1, LOAD 0 0, OUT 0, OUT 1, "
        + "LOAD 0 1, OUT 0", "");
    steps("a that has just come does not lose to b", 2, "#1 copy0 copy0 copy0 #9 -1,4 out5 out2 out3 out1",
        "SET 0 1, MOVE 1 0, STORE 1 0, MOVE 1 0, MOVE 0 0, STORE 0 1, LOAD 0 0, STORE 1 2, SET 1 9, SUB 1 0 1, OUT 1, "
        + "LOAD 1 2, OUT 1, LOAD 1 1, OUT 1, OUT 0", "");
  }

  /** "in step 3 any one": a, b, both as one, or another. */
  private static void losesInStep3() {
    String code = "#1 copy0 #2 copy2 ";
    String before = "SET 0 1, MOVE 0 0, SET 1 2, MOVE 1 1, ";
    steps("a", 2, code + "+1,3 out4 out3 out1",
        before + "STORE 0 0, ADD 0 0 1, OUT 0, OUT 1, LOAD 0 0, OUT 0",
        "0:0:0-1 1:0:1-5 2:1:2-3 3:1:3-7 4:0:5-6 1:0:8-9");
    steps("b", 2, code + "+1,3 out4 out1 out3",
        before + "STORE 1 0, ADD 1 0 1, OUT 1, OUT 0, LOAD 0 0, OUT 0",
        "0:0:0-1 1:0:1-7 2:1:2-3 3:1:3-5 4:1:5-6 3:0:8-9");
    steps("a that is b", 2, code + "+1,1 out4 out3 out1",
        before + "STORE 0 0, ADD 0 0 0, OUT 0, OUT 1, LOAD 0 0, OUT 0",
        "0:0:0-1 1:0:1-5 2:1:2-3 3:1:3-7 4:0:5-6 1:0:8-9");
    steps("another", 3, code + "#3 copy4 -1,3 out6 out1 out3 out5",
        before + "SET 2 3, MOVE 2 2, STORE 2 0, SUB 2 0 1, OUT 2, OUT 0, OUT 1, LOAD 0 0, OUT 0", "");
    steps("a of three", 3, code + "#3 copy4 -1,3 out6 out3 out5 out1",
        before + "SET 2 3, MOVE 2 2, STORE 0 0, SUB 0 0 1, OUT 0, OUT 1, OUT 2, LOAD 0 0, OUT 0", "");
    steps("b of three", 3, code + "#3 copy4 -1,3 out6 out1 out5 out3",
        before + "SET 2 3, MOVE 2 2, STORE 1 0, SUB 1 0 1, OUT 1, OUT 0, OUT 2, LOAD 0 0, OUT 0", "");
    steps("none for an OUT, which has no value", 2, code + "out1 out3 out1 out3",
        before + "OUT 0, OUT 1, OUT 0, OUT 1", "");
  }

  /** "the one whose next use is the latest (the next use is the number of the next later instruction that uses it)" */
  private static void latestNextUse() {
    int[][] orders = {{1, 3, 5}, {1, 5, 3}, {3, 1, 5}, {3, 5, 1}, {5, 1, 3}, {5, 3, 1}};
    for (int[] order : orders) {
      int loser = order[2] / 2;
      steps("outs of " + order[0] + ", " + order[1] + ", " + order[2], 3,
          "#1 copy0 #2 copy2 #3 copy4 #9 out6 out" + order[0] + " out" + order[1] + " out" + order[2],
          "SET 0 1, MOVE 0 0, SET 1 2, MOVE 1 1, SET 2 3, MOVE 2 2, STORE " + loser + " 0, SET " + loser + " 9, OUT " + loser
              + ", OUT " + order[0] / 2 + ", OUT " + order[1] / 2 + ", LOAD 0 0, OUT 0", "");
    }
    steps("not the one whose last use is the latest", 2, "#1 copy0 #2 copy2 #9 out4 out1 out3 out1",
        "SET 0 1, MOVE 0 0, SET 1 2, MOVE 1 1, STORE 1 0, SET 1 9, OUT 1, OUT 0, LOAD 1 0, OUT 1, OUT 0", "");
    steps("not a use that does not count", 2, "#1 copy0 #2 copy2 #9 out4 copy1 out1 out3 copy1",
        "SET 0 1, MOVE 0 0, SET 1 2, MOVE 1 1, STORE 1 0, SET 1 9, OUT 1, OUT 0, LOAD 0 0, OUT 0", "");
    steps("before a slot", 2, "#1 copy0 #2 copy2 #5 out4 out3 out1 #9 out8 out1 out3",
        "SET 0 1, MOVE 0 0, SET 1 2, MOVE 1 1, STORE 0 0, SET 0 5, OUT 0, OUT 1, LOAD 0 0, OUT 0, "
        + "STORE 1 1, SET 1 9, OUT 1, OUT 0, LOAD 0 1, OUT 0", "");
    steps("before a CONST", 2, "#1 copy0 #9 out2 out0 out1", "SET 0 1, MOVE 1 0, STORE 1 0, SET 1 9, OUT 1, OUT 0, "
        + "LOAD 0 0, OUT 0", "");
  }

  /** "of several, a CONST before others; then one that has a slot before one that has none; then ... the smallest register" */
  private static void ofSeveralWithOneNextUse() {
    steps("a CONST in the smaller register", 2, "#1 copy0 #9 out2 +0,1 out4",
        "SET 0 1, MOVE 1 0, SET 0 9, OUT 0, SET 0 1, ADD 0 0 1, OUT 0", "");
    steps("a CONST in the greater register", 2, "#1 copy0 #2 #9 out2 out3 +1,2 out6",
        "SET 0 1, MOVE 0 0, SET 1 2, OUT 1, SET 1 9, OUT 1, SET 1 2, ADD 0 0 1, OUT 0", "");
    steps("a CONST, though the other has a slot", 2, "#1 copy0 #2 #3 +2,3 out4 out2 out1 #9 out2 out8 +1,2 out11",
        "SET 0 1, MOVE 0 0, SET 1 2, STORE 0 0, SET 0 3, ADD 0 1 0, OUT 0, OUT 1, LOAD 0 0, OUT 0, OUT 1, "
        + "SET 1 9, OUT 1, SET 1 2, ADD 0 0 1, OUT 0", "");
    steps("two CONSTs", 2, "#1 #2 #9 out0 out1 out2 +1,0 out6",
        "SET 0 1, OUT 0, SET 1 2, OUT 1, SET 0 9, OUT 0, SET 0 1, ADD 1 1 0, OUT 1", "");
    steps("a slot in the greater register", 2, "#1 copy0 #2 #3 +2,3 out2 out1 #9 out7 +4,1 out9",
        "SET 0 1, MOVE 0 0, SET 1 2, STORE 0 0, SET 0 3, ADD 0 1 0, OUT 1, LOAD 1 0, OUT 1, SET 1 9, OUT 1, "
        + "LOAD 1 0, ADD 0 0 1, OUT 0", "");
    steps("none has a slot", 2, "#1 copy0 #2 copy2 #9 out4 -3,1 out6",
        "SET 0 1, MOVE 0 0, SET 1 2, MOVE 1 1, STORE 0 0, SET 0 9, OUT 0, LOAD 0 0, SUB 1 1 0, OUT 1", "");
    steps("both have a slot", 2, "#1 copy0 #2 copy2 #5 #6 +4,5 out6 -1,3 out8 #9 out10 -1,3 out12",
        "SET 0 1, MOVE 0 0, SET 1 2, MOVE 1 1, STORE 0 0, SET 0 5, STORE 1 1, SET 1 6, ADD 0 0 1, OUT 0, "
        + "LOAD 0 0, LOAD 1 1, SUB 0 0 1, OUT 0, SET 0 9, OUT 0, LOAD 0 0, SUB 0 0 1, OUT 0", "");
  }

  /** "If this value is no CONST and has no slot, it gets the smallest free slot first ...; it keeps the slot." */
  private static void keepsTheSlot() {
    steps("one STORE, three LOADs", 2, "#1 copy0 #2 #3 +2,3 out4 out1 #4 #5 +7,8 out9 out1 #6 #7 +12,13 out14 out1",
        "SET 0 1, MOVE 0 0, SET 1 2, STORE 0 0, SET 0 3, ADD 1 1 0, OUT 1, LOAD 0 0, OUT 0, "
        + "SET 1 4, SET 0 5, ADD 1 1 0, OUT 1, LOAD 0 0, OUT 0, SET 1 6, SET 0 7, ADD 1 1 0, OUT 1, LOAD 0 0, OUT 0",
        "0:0:0-1 1:0:1-3 2:1:2-5 3:0:4-5 4:1:5-6 1:0:7-8 7:1:9-11 8:0:10-11 9:1:11-12 1:0:13-14 "
        + "12:1:15-17 13:0:16-17 14:1:17-18 1:0:19-20");
    RegisterAllocator x = steps("a CONST has none", 2, "#1 #2 #3 out0 +1,2 out4 out0",
        "SET 0 1, OUT 0, SET 1 2, SET 0 3, ADD 1 1 0, OUT 1, SET 0 1, OUT 0", "");
    Check.due("slots() where CONSTs alone lose their registers", x.slots(), 0);
  }

  /** "it begins with the step that sets the register ..., and its end is the last step that reads the register" */
  private static void pieceBeginsAndEnds() {
    steps("the last of several uses", 2, "#1 out0 out0 out0", "SET 0 1, OUT 0, OUT 0, OUT 0", "0:0:0-3");
    steps("a use by a and b", 2, "#1 +0,0 out1", "SET 0 1, ADD 0 0 0, OUT 0", "0:0:0-1 1:0:1-2");
    steps("a use that another value's piece begins with", 2, "#1 #2 -0,1 out2 out1", "SET 0 1, SET 1 2, SUB 0 0 1, OUT 0, OUT 1",
        "0:0:0-2 1:1:1-4 2:0:2-3");
    steps("a STORE behind a use", 2, "#1 copy0 #2 copy2 out1 #9 out5 out3 out1",
        "SET 0 1, MOVE 0 0, SET 1 2, MOVE 1 1, OUT 0, STORE 0 0, SET 0 9, OUT 0, OUT 1, LOAD 0 0, OUT 0",
        "0:0:0-1 1:0:1-5 2:1:2-3 3:1:3-8 5:0:6-7 1:0:9-10");
    steps("a use, where the slot is kept", 2, "#1 copy0 #2 #3 +2,3 out4 out1 out1 #4 #5 +8,9 out10 out1",
        "SET 0 1, MOVE 0 0, SET 1 2, STORE 0 0, SET 0 3, ADD 1 1 0, OUT 1, LOAD 0 0, OUT 0, OUT 0, "
        + "SET 1 4, SET 0 5, ADD 1 1 0, OUT 1, LOAD 0 0, OUT 0",
        "0:0:0-1 1:0:1-3 2:1:2-5 3:0:4-5 4:1:5-6 1:0:7-9 8:1:10-12 9:0:11-12 10:1:12-13 1:0:14-15");
    steps("a use, where a CONST loses its register", 2, "#1 copy0 #9 out2 +0,1 out4",
        "SET 0 1, MOVE 1 0, SET 0 9, OUT 0, SET 0 1, ADD 0 0 1, OUT 0",
        "0:0:0-1 1:1:1-5 2:0:2-3 0:0:4-5 4:0:5-6");
  }

  /** "A value is in at most one register, a register holds at most one value." "numbered ... in the order of their beginnings" */
  private static void noTwoPiecesAtOnce() {
    for (int registers = 2; registers <= 8; registers++) {
      RegisterAllocator x = Check.code(registers, copies(10));
      for (int i = 21; i < 45; i++) {
        x.operate(1 + i % 4, i % 2 == 0 || i < 25 ? i % 10 : i - 4, i % 3 == 0 ? 0 : 5);
      }
      for (int i = 45; i < 60; i++) {
        x.pass(6, 89 - i);
      }
      x.allocate();
      for (int piece = 0; piece < x.pieceCount(); piece++) {
        Check.due("the register of a piece is one of them", x.piece(piece, 1) >= 0 && x.piece(piece, 1) < registers, true);
        // "if there is none, its beginning" never comes about: what is set or loaded is read at once, and a result
        // that loses its register unread has no slot yet, so that it is stored.
        Check.due("a piece is read behind its beginning", x.piece(piece, 3) > x.piece(piece, 2), true);
        for (int later = piece + 1; later < x.pieceCount(); later++) {
          Check.due("pieces begin in their order", x.piece(later, 2) > x.piece(piece, 2), true);
          boolean shared = x.piece(later, 0) == x.piece(piece, 0) || x.piece(later, 1) == x.piece(piece, 1);
          Check.due("pieces of one value or register are apart", shared && x.piece(later, 2) < x.piece(piece, 3), false);
        }
      }
    }
  }

  /** "kept until the next call of constant, operate, pass, change, cut or setRegisters that throws no exception" */
  private static void keptUntilTheNextCall() {
    ends("constant", x -> x.constant(1));
    ends("operate", x -> x.operate(1, 0, 0));
    ends("pass, a COPY", x -> x.pass(5, 0));
    ends("pass, an OUT", x -> x.pass(6, 0));
    ends("change", x -> x.change(0, 2));
    ends("change to the same", x -> x.change(0, 1));
    ends("change of a CONST that does not count", x -> x.change(1, 5));
    ends("cut", x -> x.cut(1));
    ends("cut of all", x -> x.cut(4));
    ends("cut of nothing", x -> x.cut(0));
    ends("setRegisters", x -> x.setRegisters(8));
    ends("setRegisters to the same", x -> x.setRegisters(3));
    stays("operate of none", x -> x.operate(1, 0, 9));
    stays("operate of an OUT", x -> x.operate(1, 3, 0));
    stays("operate of a wrong kind", x -> x.operate(5, 0, 0));
    stays("pass of none", x -> x.pass(5, -1));
    stays("pass of a wrong kind", x -> x.pass(4, 0));
    stays("change of none", x -> x.change(4, 1));
    stays("change of a COPY", x -> x.change(2, 1));
    stays("cut of too many", x -> x.cut(5));
    stays("cut of -1", x -> x.cut(-1));
    stays("setRegisters(1)", x -> x.setRegisters(1));
    stays("setRegisters(9)", x -> x.setRegisters(9));
  }

  private static RegisterAllocator kept() {
    RegisterAllocator x = Check.code(3, "#1 #1 copy0 out2");
    x.allocate();
    return x;
  }

  private static void ends(String what, Consumer<RegisterAllocator> call) {
    RegisterAllocator x = kept();
    call.accept(x);
    Check.due("isAllocated() behind " + what, x.isAllocated(), false);
    Check.refused(x, "step(0, 0) behind " + what, STATE, () -> x.step(0, 0));
    Check.refused(x, "stepCount(0) behind " + what, STATE, () -> x.stepCount(0));
    Check.refused(x, "slots() behind " + what, STATE, x::slots);
    Check.refused(x, "pieceCount() behind " + what, STATE, x::pieceCount);
    Check.refused(x, "piece(0, 0) behind " + what, STATE, () -> x.piece(0, 0));
    Check.refused(x, "run() behind " + what, STATE, x::run);
  }

  private static void stays(String what, Consumer<RegisterAllocator> call) {
    RegisterAllocator x = kept();
    String before = Check.state(x);
    Check.due(what + " throws", Check.outcome(() -> {
      call.accept(x);
      return "nothing";
    }).startsWith("throws."), true);
    Check.due("isAllocated() behind " + what, x.isAllocated(), true);
    Check.due("what is seen behind " + what, Check.state(x), before);
  }

  /** As above: no other call ends it, and none of them makes one. */
  private static void keptBehindCallsThatTell() {
    for (boolean with : new boolean[] {true, false}) {
      RegisterAllocator x = Check.code(2, copies(4));
      if (with) {
        x.allocate();
      }
      String before = Check.state(x);
      Check.Call[] calls = {
        x::size, () -> x.kind(0), () -> x.kind(99), () -> x.counts(0), () -> x.counts(-1), () -> x.nextUse(0, 0),
        () -> x.nextUse(-1, 0), () -> x.pressure(1), () -> x.pressure(99), x::isAllocated, () -> x.step(0, 0),
        () -> x.step(-1, 0), () -> x.stepCount(0), () -> x.stepCount(9), x::slots, x::pieceCount, () -> x.piece(0, 0),
        () -> x.piece(99, 0), x::comfortable, () -> x.output(0), x::digest
      };
      for (int call = 0; call < calls.length; call++) {
        Check.outcome(calls[call]);
        Check.due("isAllocated() behind the telling call " + call, x.isAllocated(), with);
        Check.due("what is seen behind the telling call " + call, Check.state(x), before);
      }
      Check.outcome(x::run);
      Check.due("isAllocated() behind run()", x.isAllocated(), with);
    }
  }

  /** "The allocation is made by a call of allocate": of the code and the registers as they are then. */
  private static void madeAgain() {
    RegisterAllocator x = Check.code(2, copies(5));
    Check.due("isAllocated() before", x.isAllocated(), false);
    int steps = x.allocate();
    String first = Check.state(x);
    Check.due("allocate() again", x.allocate(), steps);
    Check.due("what is seen behind allocate() again", Check.state(x), first);
    x.cut(0);
    x.setRegisters(8);
    x.allocate();
    Check.due("slots() with 8 registers", x.slots(), 0);
    x.setRegisters(2);
    Check.due("allocate() with 2 registers again", x.allocate(), steps);
    Check.due("what is seen with 2 registers again", Check.state(x), first);
    x.cut(11);
    Check.due("allocate() of nothing", x.allocate(), 0);
    Check.due("slots() of nothing", x.slots(), 0);
    Check.due("pieceCount() of nothing", x.pieceCount(), 0);
    Check.refused(x, "step(0, 0) of nothing", INDEX, () -> x.step(0, 0));
  }

  /** "0 its kind ...; 1 the register ...; 2 the register of a ..., -1 for OUT; 3 the register of b ..., otherwise -1" */
  private static void stepNumbers() {
    RegisterAllocator x = Check.code(4, "#-9 #2147483647 +1,0 -2,0 *0,3 ^2,3 copy5 out6 out4 out2 out0");
    x.allocate();
    int[][] due = {
      {0, 0, MAX, -1}, {0, 1, -9, -1}, {1, 0, 0, 1}, {2, 2, 0, 1}, {3, 3, 1, 2}, {4, 2, 0, 2}, {5, 2, 2, -1},
      {6, 2, -1, -1}, {6, 3, -1, -1}, {6, 0, -1, -1}, {6, 1, -1, -1}
    };
    numbers(x, due);
    RegisterAllocator y = Check.code(2, "#-2147483648 copy0 copy0 copy0 copy0 out4 out3 out2 out1");
    y.allocate();
    int[][] slots = {
      {0, 0, MIN, -1}, {5, 1, 0, -1}, {8, 1, 0, -1}, {5, 1, 0, -1}, {8, 1, 1, -1}, {5, 1, 0, -1}, {5, 0, 0, -1},
      {6, 0, -1, -1}, {6, 1, -1, -1}, {7, 0, 1, -1}, {6, 0, -1, -1}, {7, 0, 0, -1}, {6, 0, -1, -1}
    };
    numbers(y, slots);
  }

  private static void numbers(RegisterAllocator x, int[][] due) {
    Check.due("allocate()", x.allocate(), due.length);
    for (int step = 0; step < due.length; step++) {
      for (int what = 0; what <= 3; what++) {
        Check.due("step(" + step + ", " + what + ")", x.step(step, what), due[step][what]);
      }
    }
  }

  /** "IndexOutOfBoundsException if there is no such step, or what is not 0 to 3" */
  private static void stepsFirstAndLast() {
    RegisterAllocator x = Check.code(4, "#5 #7 +0,1 out2");
    x.allocate();
    Check.due("step(0, 0)", x.step(0, 0), 0);
    Check.due("step(0, 3)", x.step(0, 3), -1);
    Check.due("step(3, 0)", x.step(3, 0), 6);
    Check.due("step(3, 3)", x.step(3, 3), -1);
    for (int step : new int[] {-1, 4, 5, 240, MIN, MAX}) {
      for (int what : new int[] {-1, 0, 3, 4}) {
        Check.refused(x, "step(" + step + ", " + what + ")", INDEX, () -> x.step(step, what));
      }
    }
    for (int what : new int[] {-1, 4, 5, MIN, MAX}) {
      for (int step = 0; step < 4; step++) {
        int of = step;
        Check.refused(x, "step(" + step + ", " + what + ")", INDEX, () -> x.step(of, what));
      }
    }
    x.setRegisters(2);
    Check.refused(x, "step(0, 0) without an allocation", STATE, () -> x.step(0, 0));
    Check.refused(x, "step(-1, -1) without an allocation: the state is named first", STATE, () -> x.step(-1, -1));
    x.cut(4);
    x.allocate();
    Check.refused(x, "step(0, 0) of an allocation without steps", INDEX, () -> x.step(0, 0));
  }

  /** "IndexOutOfBoundsException if kind is not 0 to 8" */
  private static void stepCountFirstAndLastKind() {
    RegisterAllocator x = Check.code(2, copies(4));
    x.allocate();
    int[] due = {1, 0, 0, 0, 0, 4, 4, 3, 3};
    for (int kind = 0; kind <= 8; kind++) {
      Check.due("stepCount(" + kind + ")", x.stepCount(kind), due[kind]);
    }
    for (int kind : new int[] {-1, 9, 10, MIN, MAX}) {
      Check.refused(x, "stepCount(" + kind + ")", INDEX, () -> x.stepCount(kind));
    }
    x.cut(0);
    for (int kind : new int[] {-1, 0, 8, 9}) {
      Check.refused(x, "stepCount(" + kind + ") without an allocation", STATE, () -> x.stepCount(kind));
    }
  }

  /** "the greatest slot that is used, plus 1": not how many STOREs there are, nor how many are taken at the end. */
  private static void slotsOfNoneAndOfMany() {
    RegisterAllocator x = Check.code(2, "#1 out0");
    Check.refused(x, "slots() without an allocation", STATE, x::slots);
    x.allocate();
    Check.due("slots() of none", x.slots(), 0);
    RegisterAllocator y = Check.code(2, "#1 copy0 #2 #3 +2,3 out4 out1 #4 copy7 #5 #6 +9,10 out11 out8");
    y.allocate();
    Check.due("STOREs", y.stepCount(8), 2);
    Check.due("slots() where two values have slot 0 in turn", y.slots(), 1);
    for (int values = 3; values <= 29; values++) {
      RegisterAllocator z = Check.code(2, copies(values));
      z.allocate();
      Check.due("slots() of " + values + " values", z.slots(), values - 1);
    }
  }

  /** "IndexOutOfBoundsException if there is no such piece, or what is not 0 to 3" */
  private static void piecesFirstAndLast() {
    RegisterAllocator x = Check.code(4, "#5 #7 -0,1 out2 out0");
    Check.refused(x, "pieceCount() without an allocation", STATE, x::pieceCount);
    Check.refused(x, "piece(0, 0) without an allocation", STATE, () -> x.piece(0, 0));
    Check.refused(x, "piece(-1, 4) without an allocation: the state is named first", STATE, () -> x.piece(-1, 4));
    x.allocate();
    Check.due("pieceCount()", x.pieceCount(), 3);
    int[][] due = {{0, 0, 0, 4}, {1, 1, 1, 2}, {2, 1, 2, 3}};
    for (int piece = 0; piece < 3; piece++) {
      for (int what = 0; what <= 3; what++) {
        Check.due("piece(" + piece + ", " + what + ")", x.piece(piece, what), due[piece][what]);
      }
    }
    for (int piece : new int[] {-1, 3, 4, 180, MIN, MAX}) {
      for (int what : new int[] {-1, 0, 3, 4}) {
        Check.refused(x, "piece(" + piece + ", " + what + ")", INDEX, () -> x.piece(piece, what));
      }
    }
    for (int what : new int[] {-1, 4, 5, MIN, MAX}) {
      for (int piece = 0; piece < 3; piece++) {
        int of = piece;
        Check.refused(x, "piece(" + piece + ", " + what + ")", INDEX, () -> x.piece(of, what));
      }
    }
    x.cut(5);
    x.allocate();
    Check.due("pieceCount() of none", x.pieceCount(), 0);
    Check.refused(x, "piece(0, 0) of none", INDEX, () -> x.piece(0, 0));
  }

  /** "the smallest number of registers, 2 to 8, with which an allocation has neither LOAD nor STORE"; "-1 if there is none" */
  private static void comfortableFrom2To8() {
    for (int values = 1; values <= 12; values++) {
      for (int registers = 2; registers <= 8; registers++) {
        RegisterAllocator x = Check.code(registers, copies(values));
        int due = values < 2 ? 2 : values > 8 ? -1 : values;
        Check.due("comfortable() of " + values + " values, with " + registers + " registers", x.comfortable(), due);
        x.allocate();
        Check.due("no STORE if there are so many", x.stepCount(8) == 0, values <= registers);
        Check.due("no LOAD if there are so many", x.stepCount(7) == 0, values <= registers);
      }
    }
    Check.due("comfortable() without code", new RegisterAllocator().comfortable(), 2);
    Check.due("comfortable() where nothing counts", Check.code(4, "#1" + " copy0".repeat(59)).comfortable(), 2);
    Check.due("comfortable() of ten CONSTs that are used twice",
        Check.code(4, "#1 #2 #3 #4 #5 #6 #7 #8 #9 #10 out0 out1 out2 out3 out4 out5 out6 out7 out8 out9 "
            + "out0 out1 out2 out3 out4 out5 out6 out7 out8 out9").comfortable(), 2);
  }

  /** "The present allocation stays", and where there is none, there is none; the number of registers stays too. */
  private static void comfortableStays() {
    for (int registers = 2; registers <= 8; registers++) {
      for (int values : new int[] {1, 5, 12}) {
        RegisterAllocator x = Check.code(registers, copies(values));
        x.comfortable();
        Check.due("isAllocated() behind comfortable()", x.isAllocated(), false);
        x.allocate();
        String steps = Check.steps(x) + " " + Check.pieces(x) + " " + x.slots() + " " + x.digest();
        x.comfortable();
        Check.due("the allocation behind comfortable()",
            Check.steps(x) + " " + Check.pieces(x) + " " + x.slots() + " " + x.digest(), steps);
        Check.due("run() behind comfortable()", x.run(), values);
        Check.due("setRegisters behind comfortable()", x.setRegisters(4), registers);
      }
    }
  }
}
