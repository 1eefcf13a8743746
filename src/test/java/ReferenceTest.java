import java.util.Random;

/** All promises: runs of calls by a fixed seed, each answer compared with that of the model. */
public final class ReferenceTest {
  private static final int RUNS = 1500;
  private static final int CALLS = 512;
  private static final int[] ODD = {-1, -2, 60, 61, 100, Integer.MIN_VALUE, Integer.MAX_VALUE};

  private static int mostSteps = 0;
  private static int mostPieces = 0;

  private final Random random;
  private final RegisterAllocator x = new RegisterAllocator();
  private final Model model = new Model();
  private final int run;
  private final int reach;
  private final int outs;

  private ReferenceTest(int run) {
    this.run = run;
    random = new Random(1000L + run);
    reach = 2 + random.nextInt(40);
    outs = 1 + random.nextInt(9);
  }

  public static void main(String[] args) {
    for (int run = 0; run < RUNS; run++) {
      ReferenceTest test = new ReferenceTest(run);
      switch (run % 4) {
        case 0 -> test.fill();
        case 1 -> test.crowd();
        case 2 -> test.chain();
        default -> { }
      }
      test.calls();
      test.whole();
    }
    System.out.println(mostSteps + " steps and " + mostPieces + " pieces at most");
    Check.due("the runs reach allocations of nearly as many steps as can be", mostSteps > 210, true);
    Check.due("the runs reach allocations of nearly as many pieces as can be", mostPieces > 150, true);
    Check.end();
  }

  /** Much code at once, so that registers are short. */
  private void fill() {
    compare("setRegisters", () -> x.setRegisters(2 + run % 7), () -> model.setRegisters(2 + run % 7));
    for (int i = 0; i < 60; i++) {
      appending();
    }
    whole();
  }

  /** Code that counts nearly all, with operations on values that are far back: many LOADs and STOREs. */
  private void crowd() {
    int far = 4 + random.nextInt(20);
    int outFrom = 59 - random.nextInt(12);
    compare("setRegisters", () -> x.setRegisters(2 + run % 5), () -> model.setRegisters(2 + run % 5));
    compare("constant(3)", () -> x.constant(3), () -> model.constant(3));
    for (int i = 1; i < outFrom; i++) {
      int a = Math.max(0, i - far);
      int b = random.nextInt(i);
      int kind = 1 + random.nextInt(4);
      if (random.nextInt(9) == 0) {
        compare("constant(" + b + ")", () -> x.constant(b), () -> model.constant(b));
      } else if (random.nextInt(9) == 0) {
        compare("pass(5, " + a + ")", () -> x.pass(5, a), () -> model.pass(5, a));
      } else if (random.nextBoolean()) {
        compare("operate(" + kind + ", " + a + ", " + b + ")", () -> x.operate(kind, a, b), () -> model.operate(kind, a, b));
      } else {
        compare("operate(" + kind + ", " + b + ", " + a + ")", () -> x.operate(kind, b, a), () -> model.operate(kind, b, a));
      }
    }
    for (int i = outFrom; i < 60; i++) {
      int a = 2 * outFrom - 1 - i;
      compare("pass(6, " + a + ")", () -> x.pass(6, a), () -> model.pass(6, a));
    }
    whole();
  }

  /** Each operation uses two values that are a fixed way back: nearly each value is stored, and loaded twice. */
  private void chain() {
    int start = 3 + random.nextInt(8);
    int backA = 1 + random.nextInt(start);
    int backB = 1 + random.nextInt(start);
    int outFrom = 59 - random.nextInt(6);
    compare("setRegisters", () -> x.setRegisters(2 + run % 3), () -> model.setRegisters(2 + run % 3));
    compare("constant(7)", () -> x.constant(7), () -> model.constant(7));
    for (int i = 1; i < outFrom; i++) {
      int a = i - backA;
      int b = i - backB;
      int kind = 1 + random.nextInt(4);
      if (i <= start) {
        compare("pass(5, 0)", () -> x.pass(5, 0), () -> model.pass(5, 0));
      } else {
        compare("operate(" + kind + ", " + a + ", " + b + ")", () -> x.operate(kind, a, b), () -> model.operate(kind, a, b));
      }
    }
    for (int i = outFrom; i < 60; i++) {
      int a = 2 * outFrom - 1 - i;
      compare("pass(6, " + a + ")", () -> x.pass(6, a), () -> model.pass(6, a));
    }
    whole();
  }

  private void calls() {
    for (int call = 0; call < CALLS / 2; call++) {
      int choice = random.nextInt(100);
      if (choice < 45) {
        appending();
      } else if (choice < 60) {
        changing();
      } else {
        telling();
      }
    }
  }

  private void appending() {
    int kind = random.nextInt(12);
    int a = value();
    int b = random.nextInt(6) == 0 ? a : value();
    int number = random.nextInt(5) == 0 ? random.nextInt() : random.nextInt(20) - 10;
    if (kind < 2) {
      compare("constant(" + number + ")", () -> x.constant(number), () -> model.constant(number));
    } else if (kind < 7) {
      int of = random.nextInt(30) == 0 ? odd(0, 5) : 1 + random.nextInt(4);
      compare("operate(" + of + ", " + a + ", " + b + ")", () -> x.operate(of, a, b), () -> model.operate(of, a, b));
    } else {
      int of = random.nextInt(30) == 0 ? odd(4, 7) : random.nextInt(10) < outs ? 6 : 5;
      compare("pass(" + of + ", " + a + ")", () -> x.pass(of, a), () -> model.pass(of, a));
    }
  }

  private void changing() {
    int i = instruction();
    int number = random.nextInt(100);
    switch (random.nextInt(5)) {
      case 0 -> compare("change(" + i + ", " + number + ")", () -> x.change(i, number), () -> model.change(i, number));
      case 1 -> {
        int many = random.nextInt(8) == 0 ? odd(model.size() + 1, model.size()) : random.nextInt(3);
        compare("cut(" + many + ")", () -> x.cut(many), () -> model.cut(many));
      }
      case 2 -> {
        int registers = random.nextInt(4) == 0 ? odd(1, 9) : 2 + random.nextInt(7);
        compare("setRegisters(" + registers + ")", () -> x.setRegisters(registers), () -> model.setRegisters(registers));
      }
      default -> compare("allocate()", x::allocate, model::allocate);
    }
  }

  private void telling() {
    int i = instruction();
    int from = random.nextInt(5) == 0 ? odd(0, 60) : random.nextInt(60);
    int row = random.nextInt(20) == 0 ? odd(-1, 300) : random.nextInt(90);
    int what = random.nextInt(20) == 0 ? odd(4, -1) : random.nextInt(4);
    int of = random.nextInt(8) == 0 ? odd(9, -1) : random.nextInt(9);
    switch (random.nextInt(15)) {
      case 0 -> compare("size()", x::size, model::size);
      case 1 -> compare("kind(" + i + ")", () -> x.kind(i), () -> model.kind(i));
      case 2 -> compare("counts(" + i + ")", () -> x.counts(i), () -> model.counts(i));
      case 3 -> compare("nextUse(" + i + ", " + from + ")", () -> x.nextUse(i, from), () -> model.nextUse(i, from));
      case 4 -> compare("pressure(" + i + ")", () -> x.pressure(i), () -> model.pressure(i));
      case 5 -> compare("isAllocated()", x::isAllocated, model::isAllocated);
      case 6, 7 -> compare("step(" + row + ", " + what + ")", () -> x.step(row, what), () -> model.step(row, what));
      case 8 -> compare("stepCount(" + of + ")", () -> x.stepCount(of), () -> model.stepCount(of));
      case 9 -> compare("slots()", x::slots, model::slots);
      case 10 -> compare("pieceCount()", x::pieceCount, model::pieceCount);
      case 11 -> compare("piece(" + row + ", " + what + ")", () -> x.piece(row, what), () -> model.piece(row, what));
      case 12 -> compare("run()", x::run, model::run);
      case 13 -> compare("output(" + of + ")", () -> x.output(of), () -> model.output(of));
      default -> compare("digest()", x::digest, model::digest);
    }
  }

  /** Everything of one allocation, and that comfortable leaves it. */
  private void whole() {
    compare("allocate()", x::allocate, model::allocate);
    compare("comfortable()", x::comfortable, model::comfortable);
    compare("run()", x::run, model::run);
    int steps = model.allocate();
    for (int step = 0; step < steps; step++) {
      for (int what = 0; what < 4; what++) {
        int row = step;
        int column = what;
        compare("step(" + row + ", " + column + ")", () -> x.step(row, column), () -> model.step(row, column));
      }
    }
    for (int piece = 0; piece < model.pieceCount(); piece++) {
      for (int what = 0; what < 4; what++) {
        int row = piece;
        int column = what;
        compare("piece(" + row + ", " + column + ")", () -> x.piece(row, column), () -> model.piece(row, column));
      }
    }
    compare("pieceCount()", x::pieceCount, model::pieceCount);
    compare("slots()", x::slots, model::slots);
    compare("digest()", x::digest, model::digest);
    mostSteps = Math.max(mostSteps, steps);
    mostPieces = Math.max(mostPieces, model.pieceCount());
  }

  private void compare(String call, Check.Call made, Check.Call due) {
    Check.due("run " + run + ": " + call, Check.outcome(made), Check.outcome(due));
  }

  /** Mostly one of the last instructions that has a value; how far back is fixed for the run. */
  private int value() {
    if (model.size() == 0 || random.nextInt(60) == 0) {
      return random.nextBoolean() ? odd(model.size(), 0) : random.nextInt(62);
    }
    int i = Math.max(0, model.size() - 1 - random.nextInt(reach));
    while (i > 0 && model.kind(i) == 6) {
      i--;
    }
    return i;
  }

  private int instruction() {
    return random.nextInt(20) == 0 ? odd(model.size(), 59) : random.nextInt(model.size() + 1);
  }

  private int odd(int one, int other) {
    int choice = random.nextInt(ODD.length + 2);
    return choice < ODD.length ? ODD[choice] : choice == ODD.length ? one : other;
  }
}
