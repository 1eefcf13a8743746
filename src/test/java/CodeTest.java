/** Promises 1 to 11: the code. */
public final class CodeTest {
  private static final String INDEX = "IndexOutOfBoundsException";
  private static final String ARGUMENT = "IllegalArgumentException";
  private static final String STATE = "IllegalStateException";

  public static void main(String[] args) {
    promise1NewObject();
    promise2Constant();
    promise3Operate();
    promise4Pass();
    promise5Change();
    promise6Cut();
    promise7And8SizeAndKind();
    promise9Counts();
    promise10NextUse();
    promise11Pressure();
    sixtyInstructionsAtMost();
    appendingEndsTheAllocation();
    Check.end();
  }

  private static void promise1NewObject() {
    RegisterAllocator x = new RegisterAllocator();
    Check.due("size() of a new object", x.size(), 0);
    Check.due("isAllocated() of a new object", x.isAllocated(), false);
    Check.due("digest() of a new object", x.digest(), ((83L * 31 + 4) * 31 + 0) * 31 + 0);
    Check.due("comfortable() of a new object", x.comfortable(), 2);
    Check.refused(x, "output(0) of a new object", INDEX, () -> x.output(0));
    Check.refused(x, "kind(0) of a new object", INDEX, () -> x.kind(0));
    RegisterAllocator other = new RegisterAllocator();
    other.constant(1);
    Check.due("size() beside another object", x.size(), 0);
  }

  private static void promise2Constant() {
    RegisterAllocator x = new RegisterAllocator();
    Check.due("constant(5)", x.constant(5), 0);
    Check.due("constant(MIN)", x.constant(Integer.MIN_VALUE), 1);
    Check.due("constant(5) again", x.constant(5), 2);
    Check.due("kind(1)", x.kind(1), 0);
    x.pass(6, 1);
    x.allocate();
    Check.due("the int of the SET", x.step(0, 2), Integer.MIN_VALUE);
  }

  private static void promise3Operate() {
    RegisterAllocator x = Check.code(4, "#5 #7 out0");
    Check.refused(x, "operate(1, 0, 3)", INDEX, () -> x.operate(1, 0, 3));
    Check.refused(x, "operate(1, 3, 0)", INDEX, () -> x.operate(1, 3, 0));
    Check.refused(x, "operate(1, -1, 0)", INDEX, () -> x.operate(1, -1, 0));
    Check.refused(x, "operate(1, 0, -1)", INDEX, () -> x.operate(1, 0, -1));
    Check.refused(x, "operate(1, 0, MAX)", INDEX, () -> x.operate(1, 0, Integer.MAX_VALUE));
    Check.refused(x, "operate(1, MIN, 0)", INDEX, () -> x.operate(1, Integer.MIN_VALUE, 0));
    Check.refused(x, "operate of an OUT as a", INDEX, () -> x.operate(1, 2, 0));
    Check.refused(x, "operate of an OUT as b", INDEX, () -> x.operate(1, 0, 2));
    Check.refused(x, "operate(0, 0, 1)", ARGUMENT, () -> x.operate(0, 0, 1));
    Check.refused(x, "operate(5, 0, 1)", ARGUMENT, () -> x.operate(5, 0, 1));
    Check.refused(x, "operate(-1, 0, 1)", ARGUMENT, () -> x.operate(-1, 0, 1));
    Check.refused(x, "operate(MAX, 0, 1)", ARGUMENT, () -> x.operate(Integer.MAX_VALUE, 0, 1));
    Check.refused(x, "operate(0, 0, 9), the index is named first", INDEX, () -> x.operate(0, 0, 9));
    Check.refused(x, "operate(9, 2, 1), the index is named first", INDEX, () -> x.operate(9, 2, 1));
    for (int kind = 1; kind <= 4; kind++) {
      Check.due("operate(" + kind + ", 0, 1)", x.operate(kind, 0, 1), 2 + kind);
      Check.due("kind of it", x.kind(2 + kind), kind);
    }
    Check.due("operate(2, 6, 6), twice the same", x.operate(2, 6, 6), 7);
  }

  private static void promise4Pass() {
    RegisterAllocator x = Check.code(4, "#5 out0");
    Check.refused(x, "pass(5, 2)", INDEX, () -> x.pass(5, 2));
    Check.refused(x, "pass(6, -1)", INDEX, () -> x.pass(6, -1));
    Check.refused(x, "pass(6, MAX)", INDEX, () -> x.pass(6, Integer.MAX_VALUE));
    Check.refused(x, "pass(5, 1) of an OUT", INDEX, () -> x.pass(5, 1));
    Check.refused(x, "pass(6, 1) of an OUT", INDEX, () -> x.pass(6, 1));
    Check.refused(x, "pass(4, 0)", ARGUMENT, () -> x.pass(4, 0));
    Check.refused(x, "pass(7, 0)", ARGUMENT, () -> x.pass(7, 0));
    Check.refused(x, "pass(MIN, 0)", ARGUMENT, () -> x.pass(Integer.MIN_VALUE, 0));
    Check.refused(x, "pass(7, 1), the index is named first", INDEX, () -> x.pass(7, 1));
    Check.due("pass(5, 0)", x.pass(5, 0), 2);
    Check.due("pass(6, 2)", x.pass(6, 2), 3);
    Check.due("kind(2)", x.kind(2), 5);
    Check.due("kind(3)", x.kind(3), 6);
  }

  private static void promise5Change() {
    RegisterAllocator x = Check.code(4, "#5 copy0 out1");
    x.allocate();
    Check.refused(x, "change(3, 1)", INDEX, () -> x.change(3, 1));
    Check.refused(x, "change(-1, 1)", INDEX, () -> x.change(-1, 1));
    Check.refused(x, "change(1, 1) of a COPY", ARGUMENT, () -> x.change(1, 1));
    Check.refused(x, "change(2, 1) of an OUT", ARGUMENT, () -> x.change(2, 1));
    Check.due("isAllocated() behind refused changes", x.isAllocated(), true);
    Check.due("change(0, -9)", x.change(0, -9), 5);
    Check.due("isAllocated() behind a change", x.isAllocated(), false);
    x.allocate();
    Check.due("change(0, -9) to the same", x.change(0, -9), -9);
    Check.due("isAllocated() behind a change to the same", x.isAllocated(), false);
    x.allocate();
    Check.due("the changed int in the SET", x.step(0, 2), -9);
    x.run();
    Check.due("output(0) with the changed int", x.output(0), -9);
  }

  private static void promise6Cut() {
    RegisterAllocator x = Check.code(4, "#5 copy0 +0,1 out2 out1");
    x.allocate();
    Check.refused(x, "cut(-1)", ARGUMENT, () -> x.cut(-1));
    Check.refused(x, "cut(6)", ARGUMENT, () -> x.cut(6));
    Check.refused(x, "cut(MIN)", ARGUMENT, () -> x.cut(Integer.MIN_VALUE));
    Check.refused(x, "cut(MAX)", ARGUMENT, () -> x.cut(Integer.MAX_VALUE));
    Check.due("isAllocated() behind refused cuts", x.isAllocated(), true);
    Check.due("cut(0)", x.cut(0), 5);
    Check.due("isAllocated() behind cut(0)", x.isAllocated(), false);
    x.allocate();
    Check.due("cut(2)", x.cut(2), 3);
    Check.due("isAllocated() behind cut(2)", x.isAllocated(), false);
    Check.due("counts(0) without an OUT", x.counts(0), false);
    Check.due("nextUse(0, 0) without an OUT", x.nextUse(0, 0), -1);
    Check.refused(x, "kind(3) behind cut(2)", INDEX, () -> x.kind(3));
    Check.due("constant(8) behind cut(2)", x.constant(8), 3);
    Check.due("pass(6, 3) behind cut(2)", x.pass(6, 3), 4);
    x.allocate();
    Check.due("steps behind cut(2)", Check.steps(x), "SET 0 8, OUT 0");
    Check.due("cut of all", x.cut(5), 0);
    Check.due("cut(0) of nothing", x.cut(0), 0);
    Check.refused(x, "cut(1) of nothing", ARGUMENT, () -> x.cut(1));
  }

  private static void promise7And8SizeAndKind() {
    RegisterAllocator x = Check.code(4, "#5 +0,0 -0,0 *0,0 ^0,0 copy0 out0");
    Check.due("size()", x.size(), 7);
    for (int i = 0; i < 7; i++) {
      Check.due("kind(" + i + ")", x.kind(i), i);
    }
    Check.refused(x, "kind(7)", INDEX, () -> x.kind(7));
    Check.refused(x, "kind(-1)", INDEX, () -> x.kind(-1));
    Check.refused(x, "kind(60)", INDEX, () -> x.kind(60));
    x.cut(3);
    Check.due("size() behind cut(3)", x.size(), 4);
  }

  private static void promise9Counts() {
    RegisterAllocator x = Check.code(4, "#5 #6 copy0 +2,2 copy1 *4,1 out3");
    String counts = "";
    for (int i = 0; i < x.size(); i++) {
      counts += x.counts(i) ? "y" : "n";
    }
    Check.due("counts, 5 uses 4 and 1 but does not count", counts, "ynyynny");
    x.pass(6, 5);
    Check.due("counts(5) with an OUT of it", x.counts(5), true);
    Check.due("counts(4) with an OUT of its user", x.counts(4), true);
    Check.due("counts(1) with an OUT of its user", x.counts(1), true);
    x.cut(1);
    Check.due("counts(4) without that OUT", x.counts(4), false);
    Check.refused(x, "counts(7)", INDEX, () -> x.counts(7));
    Check.refused(x, "counts(-1)", INDEX, () -> x.counts(-1));
  }

  private static void promise10NextUse() {
    RegisterAllocator x = Check.code(4, "#5 copy0 copy0 +2,0 out0 *0,3 out5 out1");
    Check.due("nextUse(0, 0)", x.nextUse(0, 0), 1);
    Check.due("nextUse(0, 1), not before 1", x.nextUse(0, 1), 1);
    Check.due("nextUse(0, 2)", x.nextUse(0, 2), 2);
    Check.due("nextUse(0, 3), as b", x.nextUse(0, 3), 3);
    Check.due("nextUse(0, 4), by an OUT", x.nextUse(0, 4), 4);
    Check.due("nextUse(0, 5), as a", x.nextUse(0, 5), 5);
    Check.due("nextUse(0, 6)", x.nextUse(0, 6), -1);
    Check.due("nextUse(0, 8), from the end", x.nextUse(0, 8), -1);
    Check.due("nextUse(0, MAX)", x.nextUse(0, Integer.MAX_VALUE), -1);
    Check.due("nextUse(0, -5)", x.nextUse(0, -5), 1);
    Check.due("nextUse(0, MIN)", x.nextUse(0, Integer.MIN_VALUE), 1);
    Check.due("nextUse(4, 0) of an OUT", x.nextUse(4, 0), -1);
    x.cut(2);
    Check.due("nextUse(0, 1), COPYs do not count now", x.nextUse(0, 1), 4);
    Check.due("nextUse(3, 0), its user does not count", x.nextUse(3, 0), -1);
    Check.refused(x, "nextUse(6, 0)", INDEX, () -> x.nextUse(6, 0));
    Check.refused(x, "nextUse(-1, 0)", INDEX, () -> x.nextUse(-1, 0));
  }

  private static void promise11Pressure() {
    RegisterAllocator x = Check.code(4, "#5 #6 copy0 +0,1 copy1 out3 out2");
    int[] due = {1, 2, 3, 2, 2, 1, 0};
    for (int i = 0; i < due.length; i++) {
      Check.due("pressure(" + i + "), 4 does not count", x.pressure(i), due[i]);
    }
    Check.refused(x, "pressure(7)", INDEX, () -> x.pressure(7));
    Check.refused(x, "pressure(-1)", INDEX, () -> x.pressure(-1));
  }

  private static void sixtyInstructionsAtMost() {
    RegisterAllocator x = new RegisterAllocator();
    for (int i = 0; i < 59; i++) {
      Check.due("constant", x.constant(i), i);
    }
    Check.due("the 60th instruction", x.pass(6, 58), 59);
    x.allocate();
    Check.refused(x, "constant as the 61st", STATE, () -> x.constant(1));
    Check.refused(x, "operate as the 61st", STATE, () -> x.operate(1, 0, 0));
    Check.refused(x, "pass as the 61st", STATE, () -> x.pass(6, 0));
    Check.refused(x, "operate as the 61st with a wrong kind", ARGUMENT, () -> x.operate(0, 0, 0));
    Check.refused(x, "operate as the 61st of an OUT", INDEX, () -> x.operate(0, 59, 0));
    Check.refused(x, "pass as the 61st with a wrong kind", ARGUMENT, () -> x.pass(4, 0));
    Check.refused(x, "pass as the 61st of none", INDEX, () -> x.pass(4, 60));
    Check.due("isAllocated() behind refused calls", x.isAllocated(), true);
    x.cut(1);
    Check.due("operate as the 60th again", x.operate(1, 0, 1), 59);
  }

  private static void appendingEndsTheAllocation() {
    RegisterAllocator x = Check.code(4, "#5");
    x.allocate();
    x.constant(1);
    Check.due("isAllocated() behind constant", x.isAllocated(), false);
    x.allocate();
    x.operate(1, 0, 0);
    Check.due("isAllocated() behind operate", x.isAllocated(), false);
    x.allocate();
    x.pass(5, 0);
    Check.due("isAllocated() behind pass", x.isAllocated(), false);
  }
}
