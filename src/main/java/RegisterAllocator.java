/**
 * A register allocator for straight code: it gives registers to values in pieces, with slots of the
 * memory for the values that lose theirs. All rows are made in the constructor and used again by
 * every call.
 */
public final class RegisterAllocator {
  private static final int NONE = -1;

  private static final int MOST_INSTRUCTIONS = 60;
  private static final int FEWEST_REGISTERS = 2;
  private static final int MOST_REGISTERS = 8;
  private static final int FIRST_REGISTERS = 4;

  // An instruction has its own step, and a SET or LOAD for each of a and b; its value keeps its slot,
  // so there is one STORE of it at most.
  private static final int MOST_STEPS = 4 * MOST_INSTRUCTIONS;
  private static final int MOST_PIECES = 3 * MOST_INSTRUCTIONS;

  // The step of an instruction has the number of the instruction's kind, so both share these names:
  // a SET is the step that makes a CONST, a MOVE is the step of a COPY.
  private static final int CONST = 0;
  private static final int SET = 0;
  private static final int ADD = 1;
  private static final int SUB = 2;
  private static final int MUL = 3;
  private static final int XOR = 4;
  private static final int COPY = 5;
  private static final int MOVE = 5;
  private static final int OUT = 6;
  private static final int LOAD = 7;
  private static final int STORE = 8;

  private static final int PIECE_END = 3;

  private static final long DIGEST_START = 83;
  private static final long DIGEST_FACTOR = 31;

  private final Code code;
  private final Allocation present;
  private final Allocation trial;
  private final Machine machine;
  private int registers;
  private boolean allocated;

  public RegisterAllocator() {
    code = new Code();
    present = new Allocation(code);
    trial = new Allocation(code);
    machine = new Machine();
    registers = FIRST_REGISTERS;
    allocated = false;
  }

  public int constant(int value) throws IllegalStateException {
    refuseFullCode();
    return append(CONST, NONE, NONE, value);
  }

  public int operate(int kind, int a, int b)
      throws IndexOutOfBoundsException, IllegalArgumentException, IllegalStateException {
    refuseNoValue(a);
    refuseNoValue(b);
    refuseKindOutside(kind, ADD, XOR);
    refuseFullCode();
    return append(kind, a, b, 0);
  }

  public int pass(int kind, int a)
      throws IndexOutOfBoundsException, IllegalArgumentException, IllegalStateException {
    refuseNoValue(a);
    refuseKindOutside(kind, COPY, OUT);
    refuseFullCode();
    return append(kind, a, NONE, 0);
  }

  public int change(int i, int value) throws IndexOutOfBoundsException, IllegalArgumentException {
    refuseNoInstruction(i);
    if (!code.isConst(i)) {
      throw new IllegalArgumentException("the instruction is no CONST");
    }
    allocated = false;
    return code.replaceInt(i, value);
  }

  public int cut(int many) throws IllegalArgumentException {
    if (many < 0 || many > code.length()) {
      throw new IllegalArgumentException("there are not so many instructions to remove");
    }
    allocated = false;
    code.removeLast(many);
    return code.length();
  }

  public int size() {
    return code.length();
  }

  public int kind(int i) throws IndexOutOfBoundsException {
    refuseNoInstruction(i);
    return code.kindOf(i);
  }

  public boolean counts(int i) throws IndexOutOfBoundsException {
    refuseNoInstruction(i);
    return code.isCounting(i);
  }

  public int nextUse(int i, int from) throws IndexOutOfBoundsException {
    refuseNoInstruction(i);
    return code.firstUse(i, from);
  }

  public int pressure(int i) throws IndexOutOfBoundsException {
    refuseNoInstruction(i);
    return code.aliveBehind(i);
  }

  public int setRegisters(int registers) throws IllegalArgumentException {
    if (registers < FEWEST_REGISTERS || registers > MOST_REGISTERS) {
      throw new IllegalArgumentException("the number of registers is not 2 to 8");
    }
    int before = this.registers;
    this.registers = registers;
    allocated = false;
    return before;
  }

  public int allocate() {
    present.make(registers);
    allocated = true;
    return present.steps().length();
  }

  public boolean isAllocated() {
    return allocated;
  }

  public int step(int step, int what) throws IllegalStateException, IndexOutOfBoundsException {
    refuseNoAllocation();
    return numberIn(present.steps(), step, what);
  }

  public int stepCount(int kind) throws IllegalStateException, IndexOutOfBoundsException {
    refuseNoAllocation();
    if (kind < SET || kind > STORE) {
      throw new IndexOutOfBoundsException("there is no such kind of step");
    }
    return present.steps().countOfFirst(kind);
  }

  public int slots() throws IllegalStateException {
    refuseNoAllocation();
    return present.slotCount();
  }

  public int pieceCount() throws IllegalStateException {
    refuseNoAllocation();
    return present.pieces().length();
  }

  public int piece(int piece, int what) throws IllegalStateException, IndexOutOfBoundsException {
    refuseNoAllocation();
    return numberIn(present.pieces(), piece, what);
  }

  public int comfortable() {
    for (int number = FEWEST_REGISTERS; number <= MOST_REGISTERS; number++) {
      trial.make(number);
      if (!trial.usesSlots()) {
        return number;
      }
    }
    return NONE;
  }

  public int run() throws IllegalStateException {
    refuseNoAllocation();
    machine.execute(present.steps());
    return machine.outputCount();
  }

  public int output(int index) throws IndexOutOfBoundsException {
    if (index < 0 || index >= machine.outputCount()) {
      throw new IndexOutOfBoundsException("there is no such output");
    }
    return machine.outputAt(index);
  }

  public long digest() {
    long d = mix(DIGEST_START, registers);
    d = mix(d, code.length());
    for (int i = 0; i < code.length(); i++) {
      d = mix(d, code.kindOf(i));
    }
    if (allocated) {
      d = mixSteps(d, present.steps());
    }
    d = mix(d, machine.outputCount());
    for (int index = 0; index < machine.outputCount(); index++) {
      d = mix(d, machine.outputAt(index));
    }
    return d;
  }

  private static long mixSteps(long start, Rows steps) {
    long d = mix(start, steps.length());
    for (int step = 0; step < steps.length(); step++) {
      for (int what = 0; what < Rows.WIDTH; what++) {
        d = mix(d, steps.at(step, what));
      }
    }
    return d;
  }

  private static long mix(long d, int x) {
    return d * DIGEST_FACTOR + x;
  }

  private int append(int kind, int a, int b, int value) {
    allocated = false;
    return code.append(kind, a, b, value);
  }

  private static int numberIn(Rows rows, int row, int what) {
    if (!rows.has(row, what)) {
      throw new IndexOutOfBoundsException("there is no such row, or no such number in it");
    }
    return rows.at(row, what);
  }

  private void refuseNoInstruction(int i) {
    if (!code.has(i)) {
      throw new IndexOutOfBoundsException("there is no such instruction");
    }
  }

  private void refuseNoValue(int i) {
    if (!code.hasValue(i)) {
      throw new IndexOutOfBoundsException("there is no such instruction, or it is an OUT");
    }
  }

  private static void refuseKindOutside(int kind, int first, int last) {
    if (kind < first || kind > last) {
      throw new IllegalArgumentException("the kind is not one of those that are appended here");
    }
  }

  private void refuseFullCode() {
    if (code.isFull()) {
      throw new IllegalStateException("there are 60 instructions");
    }
  }

  private void refuseNoAllocation() {
    if (!allocated) {
      throw new IllegalStateException("there is no allocation");
    }
  }

  /** Rows of four numbers each, appended one behind the other. */
  private static final class Rows {
    static final int WIDTH = 4;

    private final int[] numbers;
    private final int most;
    private int length;

    Rows(int most) {
      this.most = Math.max(most, 0);
      numbers = new int[WIDTH * this.most];
      length = 0;
    }

    void clear() {
      length = 0;
    }

    int length() {
      return length;
    }

    boolean has(int row, int column) {
      return row >= 0 && row < length && column >= 0 && column < WIDTH;
    }

    int at(int row, int column) {
      return has(row, column) ? numbers[WIDTH * row + column] : NONE;
    }

    void put(int row, int column, int number) {
      if (has(row, column)) {
        numbers[WIDTH * row + column] = number;
      }
    }

    int append(int first, int second, int third, int fourth) {
      if (length < 0 || length >= most) {
        return NONE;
      }
      int row = length;
      int place = WIDTH * row;
      numbers[place] = first;
      numbers[place + 1] = second;
      numbers[place + 2] = third;
      numbers[place + 3] = fourth;
      length++;
      return row;
    }

    int countOfFirst(int number) {
      int count = 0;
      for (int row = 0; row < length; row++) {
        if (at(row, 0) == number) {
          count++;
        }
      }
      return count;
    }
  }

  /** The instructions, and which of them count. */
  private static final class Code {
    private final int[] kinds;
    private final int[] firsts;
    private final int[] seconds;
    private final int[] ints;
    private final boolean[] counting;
    private int length;

    Code() {
      kinds = new int[MOST_INSTRUCTIONS];
      firsts = new int[MOST_INSTRUCTIONS];
      seconds = new int[MOST_INSTRUCTIONS];
      ints = new int[MOST_INSTRUCTIONS];
      counting = new boolean[MOST_INSTRUCTIONS];
      length = 0;
    }

    int length() {
      return length;
    }

    boolean isFull() {
      return length >= MOST_INSTRUCTIONS;
    }

    boolean has(int i) {
      return i >= 0 && i < length;
    }

    boolean hasValue(int i) {
      return has(i) && kinds[i] != OUT;
    }

    boolean isConst(int i) {
      return i >= 0 && i < length && kinds[i] == CONST;
    }

    int kindOf(int i) {
      return has(i) ? kinds[i] : NONE;
    }

    int firstOf(int i) {
      return has(i) ? firsts[i] : NONE;
    }

    int secondOf(int i) {
      return has(i) ? seconds[i] : NONE;
    }

    int intOf(int i) {
      return has(i) ? ints[i] : 0;
    }

    boolean isCounting(int i) {
      return has(i) && counting[i];
    }

    int append(int kind, int a, int b, int value) {
      if (isFull()) {
        return NONE;
      }
      int i = length;
      kinds[i] = kind;
      firsts[i] = a;
      seconds[i] = b;
      ints[i] = value;
      length++;
      findCounting();
      return i;
    }

    int replaceInt(int i, int value) {
      if (!has(i)) {
        return 0;
      }
      int before = ints[i];
      ints[i] = value;
      return before;
    }

    void removeLast(int many) {
      if (many >= 0 && many <= length) {
        length -= many;
        findCounting();
      }
    }

    private void findCounting() {
      for (int i = 0; i < length; i++) {
        counting[i] = kinds[i] == OUT;
      }
      // Users stand behind what they use: going backward, each is settled before its a and b.
      for (int i = length - 1; i >= 0; i--) {
        if (counting[i]) {
          markCounting(firsts[i]);
          markCounting(seconds[i]);
        }
      }
    }

    private void markCounting(int i) {
      if (has(i)) {
        counting[i] = true;
      }
    }

    int firstUse(int value, int from) {
      if (!has(value)) {
        return NONE;
      }
      for (int user = Math.max(from, 0); user < length; user++) {
        if (counting[user] && (firsts[user] == value || seconds[user] == value)) {
          return user;
        }
      }
      return NONE;
    }

    int aliveBehind(int i) {
      if (!has(i)) {
        return 0;
      }
      int alive = 0;
      for (int value = 0; value <= i; value++) {
        if (firstUse(value, i + 1) != NONE) {
          alive++;
        }
      }
      return alive;
    }
  }

  /** An allocation of the code: its steps and pieces, and the registers and slots while it is made. */
  private static final class Allocation {
    private final Code code;
    private final Rows steps;
    private final Rows pieces;
    private final int[] valueIn;
    private final int[] registerOf;
    private final int[] slotOf;
    private final int[] pieceOf;
    private final int[] upcoming;
    private final boolean[] slotTaken;
    private int registers;
    private int slotCount;

    Allocation(Code code) {
      this.code = code;
      steps = new Rows(MOST_STEPS);
      pieces = new Rows(MOST_PIECES);
      valueIn = new int[MOST_REGISTERS];
      registerOf = new int[MOST_INSTRUCTIONS];
      slotOf = new int[MOST_INSTRUCTIONS];
      pieceOf = new int[MOST_INSTRUCTIONS];
      upcoming = new int[MOST_INSTRUCTIONS];
      slotTaken = new boolean[MOST_INSTRUCTIONS];
      registers = 0;
      slotCount = 0;
    }

    Rows steps() {
      return steps;
    }

    Rows pieces() {
      return pieces;
    }

    int slotCount() {
      return slotCount;
    }

    boolean usesSlots() {
      return steps.countOfFirst(LOAD) > 0 || steps.countOfFirst(STORE) > 0;
    }

    void make(int number) {
      clear(number);
      for (int i = 0; i < code.length(); i++) {
        if (code.isCounting(i) && !code.isConst(i)) {
          treat(i);
        }
      }
    }

    private void clear(int number) {
      steps.clear();
      pieces.clear();
      registers = Math.max(FEWEST_REGISTERS, Math.min(number, MOST_REGISTERS));
      slotCount = 0;
      for (int register = 0; register < MOST_REGISTERS; register++) {
        valueIn[register] = NONE;
      }
      for (int value = 0; value < MOST_INSTRUCTIONS; value++) {
        registerOf[value] = NONE;
        slotOf[value] = NONE;
        pieceOf[value] = NONE;
        upcoming[value] = code.firstUse(value, value + 1);
        slotTaken[value] = false;
      }
    }

    private void treat(int i) {
      int a = code.firstOf(i);
      int b = code.secondOf(i);
      if (isMissing(a)) {
        fetch(a, getRegister(a, b));
      }
      if (isMissing(b)) {
        fetch(b, getRegister(a, b));
      }
      int registerOfA = registerHolding(a);
      int registerOfB = registerHolding(b);
      moveToNextUse(a, i);
      moveToNextUse(b, i);
      int step;
      if (code.hasValue(i)) {
        int target = registerJustLeft(registerOfA, registerOfB);
        if (target == NONE) {
          target = getRegister(NONE, NONE);
        }
        step = steps.append(code.kindOf(i), target, registerOfA, registerOfB);
        beginPiece(i, target, step);
      } else {
        step = steps.append(OUT, registerOfA, NONE, NONE);
      }
      readAt(a, step);
      readAt(b, step);
    }

    private boolean isMissing(int value) {
      return isRow(value) && registerOf[value] == NONE;
    }

    private void fetch(int value, int register) {
      int step;
      if (code.isConst(value)) {
        step = steps.append(SET, register, code.intOf(value), NONE);
      } else {
        step = steps.append(LOAD, register, slotHolding(value), NONE);
      }
      beginPiece(value, register, step);
    }

    private void moveToNextUse(int value, int i) {
      if (!isRow(value)) {
        return;
      }
      upcoming[value] = code.firstUse(value, i + 1);
      if (upcoming[value] == NONE) {
        leaveRegister(value);
        freeSlot(value);
      }
    }

    /** If the register of a or of b is free, its value has just left it: both were held for this step. */
    private int registerJustLeft(int registerOfA, int registerOfB) {
      if (isFree(registerOfA)) {
        return registerOfA;
      }
      return isFree(registerOfB) ? registerOfB : NONE;
    }

    /** The register is free then; the values a and b keep theirs. */
    private int getRegister(int a, int b) {
      for (int register = 0; register < registers; register++) {
        if (isFree(register)) {
          return register;
        }
      }
      int register = registerToLose(a, b);
      int loser = valueHeldIn(register);
      storeIfNeeded(loser, register);
      leaveRegister(loser);
      return register;
    }

    private int registerToLose(int a, int b) {
      int best = NONE;
      for (int register = 0; register < registers; register++) {
        int value = valueHeldIn(register);
        boolean mayLose = value != a && value != b;
        if (mayLose && (best == NONE || losesBefore(value, valueHeldIn(best)))) {
          best = register;
        }
      }
      return best;
    }

    private boolean losesBefore(int value, int other) {
      if (!isRow(value) || !isRow(other)) {
        return false;
      }
      if (upcoming[value] != upcoming[other]) {
        return upcoming[value] > upcoming[other];
      }
      boolean isConst = code.isConst(value);
      if (isConst != code.isConst(other)) {
        return isConst;
      }
      return slotOf[value] != NONE && slotOf[other] == NONE;
    }

    private void storeIfNeeded(int value, int register) {
      if (!isRow(value) || code.isConst(value) || slotOf[value] != NONE) {
        return;
      }
      int slot = smallestFreeSlot();
      if (slot == NONE) {
        return;
      }
      slotTaken[slot] = true;
      slotOf[value] = slot;
      slotCount = Math.max(slotCount, slot + 1);
      int step = steps.append(STORE, register, slot, NONE);
      pieces.put(pieceOf[value], PIECE_END, step);
    }

    private int smallestFreeSlot() {
      for (int slot = 0; slot < MOST_INSTRUCTIONS; slot++) {
        if (!slotTaken[slot]) {
          return slot;
        }
      }
      return NONE;
    }

    private void freeSlot(int value) {
      int slot = slotHolding(value);
      if (isRow(slot)) {
        slotTaken[slot] = false;
        slotOf[value] = NONE;
      }
    }

    private void leaveRegister(int value) {
      int register = registerHolding(value);
      if (isRegister(register)) {
        valueIn[register] = NONE;
        registerOf[value] = NONE;
      }
    }

    private void beginPiece(int value, int register, int step) {
      if (isRow(value) && isRegister(register)) {
        valueIn[register] = value;
        registerOf[value] = register;
        pieceOf[value] = pieces.append(value, register, step, step);
      }
    }

    private void readAt(int value, int step) {
      if (isRow(value)) {
        pieces.put(pieceOf[value], PIECE_END, step);
      }
    }

    private int registerHolding(int value) {
      return isRow(value) ? registerOf[value] : NONE;
    }

    private int slotHolding(int value) {
      return isRow(value) ? slotOf[value] : NONE;
    }

    private int valueHeldIn(int register) {
      return isRegister(register) ? valueIn[register] : NONE;
    }

    private boolean isFree(int register) {
      return isRegister(register) && valueIn[register] == NONE;
    }

    private boolean isRegister(int register) {
      return register >= 0 && register < registers;
    }

    /** The rows of values and those of slots have the same length: as many as instructions. */
    private static boolean isRow(int number) {
      return number >= 0 && number < MOST_INSTRUCTIONS;
    }
  }

  /** Executes steps, and keeps the outputs of the latest run. */
  private static final class Machine {
    private final int[] registers;
    private final int[] slots;
    private final int[] outputs;
    private int outputCount;

    Machine() {
      registers = new int[MOST_REGISTERS];
      slots = new int[MOST_INSTRUCTIONS];
      outputs = new int[MOST_INSTRUCTIONS];
      outputCount = 0;
    }

    int outputCount() {
      return outputCount;
    }

    int outputAt(int index) {
      return index >= 0 && index < outputCount ? outputs[index] : 0;
    }

    void execute(Rows steps) {
      for (int register = 0; register < MOST_REGISTERS; register++) {
        registers[register] = 0;
      }
      for (int slot = 0; slot < MOST_INSTRUCTIONS; slot++) {
        slots[slot] = 0;
      }
      outputCount = 0;
      for (int step = 0; step < steps.length(); step++) {
        perform(steps.at(step, 0), steps.at(step, 1), steps.at(step, 2), steps.at(step, 3));
      }
    }

    private void perform(int kind, int register, int second, int third) {
      switch (kind) {
        case SET:
          setRegister(register, second);
          break;
        case MOVE:
          setRegister(register, inRegister(second));
          break;
        case OUT:
          write(inRegister(register));
          break;
        case LOAD:
          setRegister(register, inSlot(second));
          break;
        case STORE:
          setSlot(second, inRegister(register));
          break;
        default:
          setRegister(register, compute(kind, inRegister(second), inRegister(third)));
          break;
      }
    }

    private static int compute(int kind, int a, int b) {
      switch (kind) {
        case ADD:
          return a + b;
        case SUB:
          return a - b;
        case MUL:
          return a * b;
        default:
          return a ^ b;
      }
    }

    private int inRegister(int register) {
      return register >= 0 && register < MOST_REGISTERS ? registers[register] : 0;
    }

    private void setRegister(int register, int number) {
      if (register >= 0 && register < MOST_REGISTERS) {
        registers[register] = number;
      }
    }

    private int inSlot(int slot) {
      return slot >= 0 && slot < MOST_INSTRUCTIONS ? slots[slot] : 0;
    }

    private void setSlot(int slot, int number) {
      if (slot >= 0 && slot < MOST_INSTRUCTIONS) {
        slots[slot] = number;
      }
    }

    private void write(int number) {
      if (outputCount >= 0 && outputCount < MOST_INSTRUCTIONS) {
        outputs[outputCount] = number;
        outputCount++;
      }
    }
  }
}
