import java.util.ArrayList;
import java.util.Comparator;
import java.util.List;
import java.util.Map;
import java.util.TreeMap;
import java.util.TreeSet;
import java.util.stream.IntStream;

/** The document once more, slow and without thrift, to compare the class with. */
final class Model {
  record Instruction(int kind, int a, int b, int value) {
    boolean uses(int i) {
      return kind != 0 && (a == i || b == i);
    }
  }

  /** All that allocate makes. */
  static final class Made {
    final List<int[]> steps = new ArrayList<>();
    final List<int[]> pieces = new ArrayList<>();
    int slots = 0;
  }

  private final List<Instruction> code = new ArrayList<>();
  private int registers = 4;
  private Made made = null;
  private List<Integer> outputs = new ArrayList<>();

  int constant(int value) {
    return append(new Instruction(0, -1, -1, value));
  }

  int operate(int kind, int a, int b) {
    mustBeValue(a);
    mustBeValue(b);
    if (!List.of(1, 2, 3, 4).contains(kind)) {
      throw new IllegalArgumentException();
    }
    return append(new Instruction(kind, a, b, 0));
  }

  int pass(int kind, int a) {
    mustBeValue(a);
    if (kind != 5 && kind != 6) {
      throw new IllegalArgumentException();
    }
    return append(new Instruction(kind, a, -1, 0));
  }

  int change(int i, int value) {
    Instruction old = at(i);
    if (old.kind() != 0) {
      throw new IllegalArgumentException();
    }
    code.set(i, new Instruction(0, -1, -1, value));
    made = null;
    return old.value();
  }

  int cut(int many) {
    if (many < 0 || many > code.size()) {
      throw new IllegalArgumentException();
    }
    code.subList(code.size() - many, code.size()).clear();
    made = null;
    return code.size();
  }

  int size() {
    return code.size();
  }

  int kind(int i) {
    return at(i).kind();
  }

  boolean counts(int i) {
    at(i);
    return counting()[i];
  }

  int nextUse(int i, int from) {
    at(i);
    return users(i, counting()).filter(user -> user >= from).findFirst().orElse(-1);
  }

  int pressure(int i) {
    at(i);
    boolean[] counting = counting();
    return (int) IntStream.rangeClosed(0, i).filter(value -> users(value, counting).anyMatch(user -> user > i)).count();
  }

  /** From the last instruction to the first, as each asks for later ones alone. */
  private boolean[] counting() {
    boolean[] counting = new boolean[code.size()];
    for (int i = counting.length - 1; i >= 0; i--) {
      counting[i] = code.get(i).kind() == 6 || users(i, counting).findAny().isPresent();
    }
    return counting;
  }

  private IntStream users(int i, boolean[] counting) {
    return IntStream.range(i + 1, code.size()).filter(user -> counting[user] && code.get(user).uses(i));
  }

  int setRegisters(int number) {
    if (number < 2 || number > 8) {
      throw new IllegalArgumentException();
    }
    int before = registers;
    registers = number;
    made = null;
    return before;
  }

  int allocate() {
    made = new Maker(registers).make();
    return made.steps.size();
  }

  boolean isAllocated() {
    return made != null;
  }

  int step(int step, int what) {
    return number(allocation().steps, step, what);
  }

  int stepCount(int kind) {
    Made all = allocation();
    if (kind < 0 || kind > 8) {
      throw new IndexOutOfBoundsException();
    }
    return (int) all.steps.stream().filter(step -> step[0] == kind).count();
  }

  int slots() {
    return allocation().slots;
  }

  int pieceCount() {
    return allocation().pieces.size();
  }

  int piece(int piece, int what) {
    return number(allocation().pieces, piece, what);
  }

  int comfortable() {
    for (int number = 2; number <= 8; number++) {
      if (new Maker(number).make().steps.stream().noneMatch(step -> step[0] >= 7)) {
        return number;
      }
    }
    return -1;
  }

  /** The values are computed from the code, not from the steps: both must write the same. */
  int run() {
    allocation();
    int[] values = new int[code.size()];
    outputs = new ArrayList<>();
    for (int i = 0; i < values.length; i++) {
      Instruction of = code.get(i);
      int a = of.a() < 0 ? 0 : values[of.a()];
      int b = of.b() < 0 ? 0 : values[of.b()];
      values[i] = switch (of.kind()) {
        case 0 -> of.value();
        case 1 -> a + b;
        case 2 -> a - b;
        case 3 -> a * b;
        case 4 -> a ^ b;
        default -> a;
      };
      if (of.kind() == 6) {
        outputs.add(a);
      }
    }
    return outputs.size();
  }

  int output(int index) {
    if (index < 0 || index >= outputs.size()) {
      throw new IndexOutOfBoundsException();
    }
    return outputs.get(index);
  }

  long digest() {
    List<Integer> numbers = new ArrayList<>(List.of(registers, code.size()));
    code.forEach(instruction -> numbers.add(instruction.kind()));
    if (made != null) {
      numbers.add(made.steps.size());
      made.steps.forEach(step -> numbers.addAll(List.of(step[0], step[1], step[2], step[3])));
    }
    numbers.add(outputs.size());
    numbers.addAll(outputs);
    long d = 83;
    for (int number : numbers) {
      d = d * 31 + number;
    }
    return d;
  }

  private int append(Instruction instruction) {
    if (code.size() == 60) {
      throw new IllegalStateException();
    }
    code.add(instruction);
    made = null;
    return code.size() - 1;
  }

  private Instruction at(int i) {
    if (i < 0 || i >= code.size()) {
      throw new IndexOutOfBoundsException();
    }
    return code.get(i);
  }

  private void mustBeValue(int i) {
    if (at(i).kind() == 6) {
      throw new IndexOutOfBoundsException();
    }
  }

  private Made allocation() {
    if (made == null) {
      throw new IllegalStateException();
    }
    return made;
  }

  private static int number(List<int[]> rows, int row, int what) {
    if (row < 0 || row >= rows.size() || what < 0 || what > 3) {
      throw new IndexOutOfBoundsException();
    }
    return rows.get(row)[what];
  }

  /** Makes one allocation. */
  private final class Maker {
    private final int number;
    private final Made result = new Made();
    private final Map<Integer, Integer> holders = new TreeMap<>();
    private final Map<Integer, Integer> slotOf = new TreeMap<>();
    private final int[][] uses = new int[code.size()][];

    Maker(int number) {
      this.number = number;
      boolean[] counting = counting();
      for (int i = 0; i < counting.length; i++) {
        uses[i] = users(i, counting).toArray();
      }
    }

    Made make() {
      for (int i = 0; i < code.size(); i++) {
        Instruction now = code.get(i);
        if (now.kind() != 0 && (now.kind() == 6 || uses[i].length > 0)) {
          take(i, now);
        }
      }
      ends();
      return result;
    }

    private void take(int i, Instruction now) {
      List<Integer> used = now.b() < 0 ? List.of(now.a()) : List.of(now.a(), now.b());
      for (int value : used) {
        if (!holders.containsValue(value)) {
          int register = empty(i, used);
          if (isConst(value)) {
            step(0, register, code.get(value).value(), -1);
          } else {
            step(7, register, slotOf.get(value), -1);
          }
          holders.put(register, value);
          result.pieces.add(new int[] {value, register, result.steps.size() - 1, -1});
        }
      }
      int registerOfA = registerOf(now.a());
      int registerOfB = now.b() < 0 ? -1 : registerOf(now.b());
      boolean aLeaves = after(now.a(), i) > 1000;
      boolean bLeaves = now.b() >= 0 && after(now.b(), i) > 1000;
      if (aLeaves) {
        holders.remove(registerOfA);
        slotOf.remove(now.a());
      }
      if (bLeaves) {
        holders.remove(registerOfB);
        slotOf.remove(now.b());
      }
      if (now.kind() == 6) {
        step(6, registerOfA, -1, -1);
        return;
      }
      int register = aLeaves ? registerOfA : bLeaves ? registerOfB : empty(i, List.of());
      step(now.kind(), register, registerOfA, registerOfB);
      holders.put(register, i);
      result.pieces.add(new int[] {i, register, result.steps.size() - 1, -1});
    }

    private int empty(int i, List<Integer> kept) {
      for (int register = 0; register < number; register++) {
        if (!holders.containsKey(register)) {
          return register;
        }
      }
      int loses = holders.keySet().stream().filter(register -> !kept.contains(holders.get(register)))
          .min(Comparator.<Integer>comparingInt(register -> -after(holders.get(register), i))
              .thenComparing(register -> isConst(holders.get(register)) ? 0 : 1)
              .thenComparing(register -> slotOf.containsKey(holders.get(register)) ? 0 : 1)
              .thenComparing(register -> register)).get();
      int value = holders.get(loses);
      if (!isConst(value) && !slotOf.containsKey(value)) {
        int slot = 0;
        while (new TreeSet<>(slotOf.values()).contains(slot)) {
          slot++;
        }
        slotOf.put(value, slot);
        result.slots = Math.max(result.slots, slot + 1);
        step(8, loses, slot, -1);
      }
      holders.remove(loses);
      return loses;
    }

    /** The pieces once more from the steps: the last step that reads the register before another sets it. */
    private void ends() {
      for (int[] piece : result.pieces) {
        piece[3] = piece[2];
        for (int at = piece[2] + 1; at < result.steps.size(); at++) {
          int[] step = result.steps.get(at);
          boolean alone = step[0] == 6 || step[0] == 8;
          boolean operates = step[0] >= 1 && step[0] <= 5;
          if (alone && step[1] == piece[1] || operates && (step[2] == piece[1] || step[0] < 5 && step[3] == piece[1])) {
            piece[3] = at;
          }
          if (!alone && step[1] == piece[1]) {
            break;
          }
        }
      }
    }

    private int registerOf(int value) {
      return holders.keySet().stream().filter(register -> holders.get(register) == value).findFirst().get();
    }

    private int after(int value, int i) {
      for (int use : uses[value]) {
        if (use > i) {
          return use;
        }
      }
      return 9999;
    }

    private boolean isConst(int value) {
      return code.get(value).kind() == 0;
    }

    private void step(int kind, int second, int third, int fourth) {
      result.steps.add(new int[] {kind, second, third, fourth});
    }
  }
}
