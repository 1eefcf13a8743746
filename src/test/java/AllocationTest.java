/** Promises 12 to 20: the allocation. The steps and pieces that are due are worked out by hand. */
public final class AllocationTest {
  private static final String INDEX = "IndexOutOfBoundsException";
  private static final String ARGUMENT = "IllegalArgumentException";
  private static final String STATE = "IllegalStateException";

  public static void main(String[] args) {
    promise12SetRegisters();
    promise13ResultsTakeOver();
    promise13ConstantsAreMadeAgain();
    promise13ValuesGoToSlots();
    promise13ValuesOfEqualNextUse();
    promise13WhatDoesNotCount();
    promise14IsAllocated();
    promise15Step();
    promise16StepCount();
    promise17Slots();
    promise18And19Pieces();
    promise20Comfortable();
    Check.end();
  }

  private static void steps(String what, int registers, String code, String steps, String pieces) {
    RegisterAllocator x = Check.code(registers, code);
    Check.due(what + ": allocate()", x.allocate(), steps.isEmpty() ? 0 : steps.split(", ").length);
    Check.due(what + ": steps", Check.steps(x), steps);
    if (!pieces.isEmpty()) {
      Check.due(what + ": pieces", Check.pieces(x), pieces);
    }
  }

  private static void promise12SetRegisters() {
    RegisterAllocator x = Check.code(4, "#5 copy0 copy0 copy0 out1 out2 out3 out0");
    x.allocate();
    Check.refused(x, "setRegisters(1)", ARGUMENT, () -> x.setRegisters(1));
    Check.refused(x, "setRegisters(9)", ARGUMENT, () -> x.setRegisters(9));
    Check.refused(x, "setRegisters(-2)", ARGUMENT, () -> x.setRegisters(-2));
    Check.refused(x, "setRegisters(MAX)", ARGUMENT, () -> x.setRegisters(Integer.MAX_VALUE));
    Check.due("isAllocated() behind refused calls", x.isAllocated(), true);
    Check.due("setRegisters(4), 4 at first", x.setRegisters(4), 4);
    Check.due("isAllocated() behind setRegisters of the same", x.isAllocated(), false);
    Check.due("setRegisters(2)", x.setRegisters(2), 4);
    x.allocate();
    Check.due("slots() with 2 registers", x.slots(), 2);
    Check.due("setRegisters(8)", x.setRegisters(8), 2);
    Check.due("setRegisters(3)", x.setRegisters(3), 8);
    x.allocate();
    Check.due("slots() with 3 registers", x.slots(), 0);
    Check.due("setRegisters of a new object", new RegisterAllocator().setRegisters(5), 4);
  }

  private static void promise13ResultsTakeOver() {
    steps("the register of a", 4, "#5 #7 +0,1 out2",
        "SET 0 5, SET 1 7, ADD 0 0 1, OUT 0", "0:0:0-2 1:1:1-2 2:0:2-3");
    steps("the register of b, as a stays", 4, "#5 #7 -0,1 out2 out0",
        "SET 0 5, SET 1 7, SUB 1 0 1, OUT 1, OUT 0", "0:0:0-4 1:1:1-2 2:1:2-3");
    steps("the register of a, though that of b is smaller", 4, "#5 #7 out0 ^1,0 out3",
        "SET 0 5, OUT 0, SET 1 7, XOR 1 1 0, OUT 1", "");
    steps("the smallest free one, as both stay", 4, "#5 #7 *0,1 out2 out0 out1",
        "SET 0 5, SET 1 7, MUL 2 0 1, OUT 2, OUT 0, OUT 1", "");
    steps("the smallest free one has been left before", 4, "#5 #6 #7 copy0 copy1 copy2 out3 out4 copy2 out8 out5 out2",
        "SET 0 5, MOVE 0 0, SET 1 6, MOVE 1 1, SET 2 7, MOVE 3 2, OUT 0, OUT 1, MOVE 0 2, OUT 0, OUT 3, OUT 2", "");
    steps("the register of b, though a smaller one is free", 4, "#5 #6 #7 out0 copy2 +1,1 -1,2 out4 out6 out5 out1", "SET 0 5, OUT 0, "
        + "SET 0 7, MOVE 1 0, SET 2 6, ADD 3 2 2, SUB 0 2 0, OUT 1, OUT 0, OUT 3, OUT 2", "");
    steps("a and b the same", 4, "#5 *0,0 out1", "SET 0 5, MUL 0 0 0, OUT 0", "0:0:0-1 1:0:1-2");
    steps("a and b the same that stays", 4, "#5 *0,0 out1 out0", "SET 0 5, MUL 1 0 0, OUT 1, OUT 0", "0:0:0-3 1:1:1-2");
    steps("a COPY of a value that leaves", 4, "#5 copy0 out1", "SET 0 5, MOVE 0 0, OUT 0", "0:0:0-1 1:0:1-2");
    steps("a COPY of a value that stays", 4, "#5 copy0 out1 out0", "SET 0 5, MOVE 1 0, OUT 1, OUT 0", "");
    steps("nothing", 4, "#5", "", "");
  }

  private static void promise13ConstantsAreMadeAgain() {
    steps("a CONST loses its register without a STORE", 2, "#1 #2 #3 +0,1 +3,2 out4 out0 out1",
        "SET 0 1, SET 1 2, ADD 1 0 1, SET 0 3, ADD 1 1 0, OUT 1, SET 0 1, OUT 0, SET 0 2, OUT 0",
        "0:0:0-2 1:1:1-2 3:1:2-4 2:0:3-4 4:1:4-5 0:0:6-7 1:0:8-9");
    steps("a CONST loses its register to its own COPY", 2, "#1 #2 copy0 copy1 out2 out3 out0 out1",
        "SET 0 1, MOVE 1 0, SET 0 2, MOVE 0 0, OUT 1, OUT 0, SET 0 1, OUT 0, SET 0 2, OUT 0", "");
  }

  private static void promise13ValuesGoToSlots() {
    steps("the latest next use", 2, "#1 copy0 copy0 copy0 out3 out2 out1",
        "SET 0 1, MOVE 1 0, STORE 1 0, MOVE 1 0, MOVE 0 0, OUT 0, OUT 1, LOAD 0 0, OUT 0",
        "0:0:0-4 1:1:1-2 2:1:3-6 3:0:4-5 1:0:7-8");
    steps("a loses its register to the result", 2, "#3 copy0 #4 +1,2 out3 out2 out1",
        "SET 0 3, MOVE 0 0, SET 1 4, STORE 0 0, ADD 0 0 1, OUT 0, OUT 1, LOAD 0 0, OUT 0",
        "0:0:0-1 1:0:1-4 2:1:2-6 3:0:4-5 1:0:7-8");
    steps("b does not lose its register to a", 2, "#1 copy0 #2 copy2 #5 +4,1 out3 out5 out1",
        "SET 0 1, MOVE 0 0, SET 1 2, MOVE 1 1, STORE 1 0, SET 1 5, ADD 1 1 0, STORE 0 1, LOAD 0 0, OUT 0, OUT 1, LOAD 0 1, OUT 0",
        "0:0:0-1 1:0:1-7 2:1:2-3 3:1:3-4 4:1:5-6 5:1:6-10 3:0:8-9 1:0:11-12");
    steps("a free slot is taken again", 2, "#1 copy0 copy0 copy0 out3 out2 out1 copy0 copy0 copy0 out9 out8 out7",
        "SET 0 1, MOVE 1 0, STORE 1 0, MOVE 1 0, MOVE 0 0, OUT 0, OUT 1, LOAD 0 0, OUT 0, "
        + "SET 0 1, MOVE 1 0, STORE 1 0, MOVE 1 0, MOVE 0 0, OUT 0, OUT 1, LOAD 0 0, OUT 0", "");
    steps("the smallest free slot, though greater ones are taken", 2,
        "#1 copy0 copy0 copy0 copy0 out1 #9 copy6 out2 out3 out7 out4",
        "SET 0 1, MOVE 1 0, STORE 1 0, MOVE 1 0, STORE 1 1, MOVE 1 0, MOVE 0 0, STORE 0 2, LOAD 0 0, OUT 0, "
        + "SET 0 9, MOVE 0 0, STORE 0 0, LOAD 0 1, OUT 0, OUT 1, LOAD 0 0, OUT 0, LOAD 0 2, OUT 0", "");
  }

  private static void promise13ValuesOfEqualNextUse() {
    steps("a CONST before others", 2, "#1 copy0 #2 #9 out2 out3 +1,2 out6",
        "SET 0 1, MOVE 0 0, SET 1 2, OUT 1, SET 1 9, OUT 1, SET 1 2, ADD 0 0 1, OUT 0", "");
    steps("a CONST before one that has a slot", 2, "#1 copy0 #2 #3 +2,3 out4 out2 out1 #9 out2 out8 +1,2 out11",
        "SET 0 1, MOVE 0 0, SET 1 2, STORE 0 0, SET 0 3, ADD 0 1 0, OUT 0, OUT 1, LOAD 0 0, OUT 0, OUT 1, "
        + "SET 1 9, OUT 1, SET 1 2, ADD 0 0 1, OUT 0", "");
    steps("one that has a slot before one that has none", 2, "#1 copy0 #2 #3 +2,3 out2 out1 #9 out7 +4,1 out9",
        "SET 0 1, MOVE 0 0, SET 1 2, STORE 0 0, SET 0 3, ADD 0 1 0, OUT 1, LOAD 1 0, OUT 1, SET 1 9, OUT 1, "
        + "LOAD 1 0, ADD 0 0 1, OUT 0",
        "0:0:0-1 1:0:1-3 2:1:2-6 3:0:4-5 4:0:5-12 1:1:7-8 7:1:9-10 1:1:11-12 9:0:12-13");
    steps("the one in the smallest register", 2, "#1 copy0 #2 copy2 #9 out4 +1,3 out6",
        "SET 0 1, MOVE 0 0, SET 1 2, MOVE 1 1, STORE 0 0, SET 0 9, OUT 0, LOAD 0 0, ADD 0 0 1, OUT 0", "");
    steps("the smallest register of two CONSTs", 2, "#1 #2 #9 out0 out1 out2 +1,0 out6",
        "SET 0 1, OUT 0, SET 1 2, OUT 1, SET 0 9, OUT 0, SET 0 1, ADD 1 1 0, OUT 1", "");
    steps("a later next use before a CONST", 2, "#1 copy0 #2 #9 out2 out3 out2 out1",
        "SET 0 1, MOVE 0 0, SET 1 2, OUT 1, STORE 0 0, SET 0 9, OUT 0, OUT 1, LOAD 0 0, OUT 0", "");
  }

  private static void promise13WhatDoesNotCount() {
    steps("no steps, and no uses", 4, "#1 copy0 +1,1 #4 copy3 out1 *1,0", "SET 0 1, MOVE 0 0, OUT 0", "0:0:0-1 1:0:1-2");
    steps("no next use either", 2, "#1 copy0 #2 copy2 #9 *3,3 +1,1 out4 out3 copy1 out1",
        "SET 0 1, MOVE 0 0, SET 1 2, MOVE 1 1, STORE 0 0, SET 0 9, OUT 0, OUT 1, LOAD 0 0, OUT 0", "");
  }

  private static void promise14IsAllocated() {
    RegisterAllocator x = new RegisterAllocator();
    Check.due("allocate() without code", x.allocate(), 0);
    Check.due("isAllocated()", x.isAllocated(), true);
    Check.due("steps without code", Check.steps(x), "");
    Check.due("slots() without code", x.slots(), 0);
    Check.due("pieceCount() without code", x.pieceCount(), 0);
    Check.due("run() without code", x.run(), 0);
    x.digest();
    x.comfortable();
    x.size();
    Check.due("isAllocated() behind calls that only tell", x.isAllocated(), true);
    x.constant(1);
    Check.due("isAllocated() behind constant", x.isAllocated(), false);
    x.allocate();
    Check.due("allocate() again", x.allocate(), 0);
    Check.due("isAllocated() behind allocate twice", x.isAllocated(), true);
  }

  private static void promise15Step() {
    RegisterAllocator x = Check.code(2, "#1 copy0 copy0 copy0 *2,3 out4 out1");
    Check.refused(x, "step(0, 0) without an allocation", STATE, () -> x.step(0, 0));
    Check.refused(x, "step(-1, 9) without an allocation", STATE, () -> x.step(-1, 9));
    Check.due("allocate()", x.allocate(), 9);
    int[][] due = {
      {0, 0, 1, -1}, {5, 1, 0, -1}, {8, 1, 0, -1}, {5, 1, 0, -1}, {5, 0, 0, -1}, {3, 1, 1, 0}, {6, 1, -1, -1},
      {7, 0, 0, -1}, {6, 0, -1, -1}
    };
    for (int step = 0; step < due.length; step++) {
      for (int what = 0; what < 4; what++) {
        Check.due("step(" + step + ", " + what + ")", x.step(step, what), due[step][what]);
      }
    }
    Check.refused(x, "step(9, 0)", INDEX, () -> x.step(9, 0));
    Check.refused(x, "step(-1, 0)", INDEX, () -> x.step(-1, 0));
    Check.refused(x, "step(0, 4)", INDEX, () -> x.step(0, 4));
    Check.refused(x, "step(0, -1)", INDEX, () -> x.step(0, -1));
    Check.refused(x, "step(1, -1)", INDEX, () -> x.step(1, -1));
    Check.refused(x, "step(MAX, MAX)", INDEX, () -> x.step(Integer.MAX_VALUE, Integer.MAX_VALUE));
  }

  private static void promise16StepCount() {
    RegisterAllocator x = Check.code(2, "#1 copy0 copy0 copy0 *2,3 out4 out1 #3 #4 -7,8 +9,9 ^10,9 out11");
    Check.refused(x, "stepCount(0) without an allocation", STATE, () -> x.stepCount(0));
    Check.refused(x, "stepCount(9) without an allocation", STATE, () -> x.stepCount(9));
    x.allocate();
    int[] due = {3, 1, 1, 1, 1, 3, 3, 1, 1};
    for (int kind = 0; kind < due.length; kind++) {
      Check.due("stepCount(" + kind + ")", x.stepCount(kind), due[kind]);
    }
    Check.refused(x, "stepCount(9)", INDEX, () -> x.stepCount(9));
    Check.refused(x, "stepCount(-1)", INDEX, () -> x.stepCount(-1));
  }

  private static void promise17Slots() {
    RegisterAllocator x = Check.code(2, "#1 copy0 copy0 copy0 copy0 out1 out2 out3 out4");
    Check.refused(x, "slots() without an allocation", STATE, x::slots);
    x.allocate();
    Check.due("slots() with 2 registers", x.slots(), 3);
    Check.due("steps with 2 registers", Check.steps(x), "SET 0 1, MOVE 1 0, STORE 1 0, MOVE 1 0, STORE 1 1, MOVE 1 0, "
        + "MOVE 0 0, STORE 0 2, LOAD 0 0, OUT 0, LOAD 0 1, OUT 0, OUT 1, LOAD 0 2, OUT 0");
    x.setRegisters(3);
    x.allocate();
    Check.due("slots() with 3 registers", x.slots(), 1);
    x.setRegisters(4);
    x.allocate();
    Check.due("slots() with 4 registers", x.slots(), 0);
  }

  private static void promise18And19Pieces() {
    RegisterAllocator x = Check.code(2, "#3 copy0 #4 +1,2 out3 out2 out1");
    Check.refused(x, "pieceCount() without an allocation", STATE, x::pieceCount);
    Check.refused(x, "piece(0, 0) without an allocation", STATE, () -> x.piece(0, 0));
    Check.refused(x, "piece(-1, 9) without an allocation", STATE, () -> x.piece(-1, 9));
    x.allocate();
    Check.due("pieceCount()", x.pieceCount(), 5);
    int[][] due = {{0, 0, 0, 1}, {1, 0, 1, 4}, {2, 1, 2, 6}, {3, 0, 4, 5}, {1, 0, 7, 8}};
    for (int piece = 0; piece < due.length; piece++) {
      for (int what = 0; what < 4; what++) {
        Check.due("piece(" + piece + ", " + what + ")", x.piece(piece, what), due[piece][what]);
      }
    }
    Check.refused(x, "piece(5, 0)", INDEX, () -> x.piece(5, 0));
    Check.refused(x, "piece(-1, 0)", INDEX, () -> x.piece(-1, 0));
    Check.refused(x, "piece(0, 4)", INDEX, () -> x.piece(0, 4));
    Check.refused(x, "piece(1, -1)", INDEX, () -> x.piece(1, -1));
  }

  private static void promise20Comfortable() {
    for (int copies = 1; copies <= 12; copies++) {
      RegisterAllocator x = Check.code(2, "#1");
      for (int copy = 1; copy <= copies; copy++) {
        x.pass(5, 0);
      }
      for (int copy = 1; copy <= copies; copy++) {
        x.pass(6, copy);
      }
      x.allocate();
      x.run();
      String steps = Check.steps(x) + Check.pieces(x) + Check.outputs(x) + x.slots() + x.digest();
      Check.due("comfortable() with " + copies + " COPYs", x.comfortable(), copies > 8 ? -1 : Math.max(copies, 2));
      Check.due("what comfortable() leaves",
          Check.steps(x) + Check.pieces(x) + Check.outputs(x) + x.slots() + x.digest(), steps);
      Check.due("setRegisters(3) behind comfortable()", x.setRegisters(3), 2);
      x.comfortable();
      Check.due("isAllocated() behind comfortable()", x.isAllocated(), false);
    }
    Check.due("comfortable() where CONSTs alone lose their registers",
        Check.code(4, "#1 #2 #3 +0,1 +3,2 out4 out0 out1").comfortable(), 2);
  }
}
