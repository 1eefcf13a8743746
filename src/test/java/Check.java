import java.util.ArrayList;
import java.util.List;

/** What the tests share: a count of wrong answers, and texts of what an object answers. */
final class Check {
  interface Call {
    Object answer();
  }

  private static final String[] STEP_NAMES = {"SET", "ADD", "SUB", "MUL", "XOR", "MOVE", "OUT", "LOAD", "STORE"};

  private static int wrong = 0;

  private Check() {}

  static void due(String call, Object got, Object want) {
    if (!String.valueOf(got).equals(String.valueOf(want))) {
      wrong++;
      System.out.println(call + " answered " + got + ", due is " + want);
    }
  }

  /** The answer as a text, or throws.X if the call throws an X. */
  static String outcome(Call call) {
    try {
      return String.valueOf(call.answer());
    } catch (RuntimeException e) {
      return "throws." + e.getClass().getSimpleName();
    }
  }

  /** The call throws what is due, and changes nothing that can be seen. */
  static void refused(RegisterAllocator x, String call, String exception, Call made) {
    String before = state(x);
    due(call, outcome(made), "throws." + exception);
    due(call + ", what is seen after it", state(x), before);
  }

  /** All that the methods of an object tell, but for what they tell of instructions that do not exist. */
  static String state(RegisterAllocator x) {
    StringBuilder text = new StringBuilder();
    text.append("size ").append(x.size());
    for (int i = 0; i < x.size(); i++) {
      text.append("\n").append(i).append(" kind ").append(x.kind(i)).append(" counts ").append(x.counts(i));
      text.append(" pressure ").append(x.pressure(i)).append(" uses");
      for (int use = x.nextUse(i, 0); use >= 0; use = x.nextUse(i, use + 1)) {
        text.append(" ").append(use);
      }
    }
    text.append("\nallocated ").append(x.isAllocated());
    if (x.isAllocated()) {
      text.append("\nsteps ").append(steps(x)).append("\npieces ").append(pieces(x)).append("\nslots ").append(x.slots());
    }
    text.append("\noutputs ").append(outputs(x));
    text.append("\ncomfortable ").append(x.comfortable());
    text.append("\ndigest ").append(x.digest());
    return text.toString();
  }

  static int stepsIn(RegisterAllocator x) {
    int steps = 0;
    for (int kind = 0; kind <= 8; kind++) {
      steps += x.stepCount(kind);
    }
    return steps;
  }

  /** For example SET 0 5, ADD 0 0 1, OUT 0: the numbers of a step are named up to the last that has a sense. */
  static String steps(RegisterAllocator x) {
    List<String> texts = new ArrayList<>();
    for (int step = 0; step < stepsIn(x); step++) {
      int kind = x.step(step, 0);
      StringBuilder text = new StringBuilder(STEP_NAMES[kind]);
      int last = kind == 6 ? 1 : kind >= 1 && kind <= 4 ? 3 : 2;
      for (int what = 1; what <= 3; what++) {
        if (what <= last || x.step(step, what) != -1) {
          text.append(" ").append(x.step(step, what));
        }
      }
      texts.add(text.toString());
    }
    return String.join(", ", texts);
  }

  static String pieces(RegisterAllocator x) {
    List<String> texts = new ArrayList<>();
    for (int piece = 0; piece < x.pieceCount(); piece++) {
      texts.add(x.piece(piece, 0) + ":" + x.piece(piece, 1) + ":" + x.piece(piece, 2) + "-" + x.piece(piece, 3));
    }
    return String.join(" ", texts);
  }

  static String outputs(RegisterAllocator x) {
    List<String> texts = new ArrayList<>();
    for (int index = 0; index <= 60; index++) {
      int at = index;
      String answer = outcome(() -> x.output(at));
      if (answer.startsWith("throws.")) {
        break;
      }
      texts.add(answer);
    }
    return String.join(" ", texts);
  }

  /** The digest as the document computes it, from what the other methods answer. */
  static long digestOf(RegisterAllocator x, int registers) {
    List<Long> numbers = new ArrayList<>();
    numbers.add((long) registers);
    numbers.add((long) x.size());
    for (int i = 0; i < x.size(); i++) {
      numbers.add((long) x.kind(i));
    }
    if (x.isAllocated()) {
      numbers.add((long) stepsIn(x));
      for (int step = 0; step < stepsIn(x); step++) {
        for (int what = 0; what <= 3; what++) {
          numbers.add((long) x.step(step, what));
        }
      }
    }
    String outputs = outputs(x);
    String[] texts = outputs.isEmpty() ? new String[0] : outputs.split(" ");
    numbers.add((long) texts.length);
    for (String text : texts) {
      numbers.add(Long.parseLong(text));
    }
    long d = 83;
    for (long number : numbers) {
      d = d * 31 + number;
    }
    return d;
  }

  /**
   * Appends instructions that are told as words: #5 is a CONST of 5, and +0,1 or -0,1 or *0,1 or ^0,1
   * or copy0 or out0 are the others.
   */
  static RegisterAllocator code(int registers, String words) {
    RegisterAllocator x = new RegisterAllocator();
    x.setRegisters(registers);
    for (String word : words.trim().split(" +")) {
      if (word.startsWith("copy")) {
        x.pass(5, Integer.parseInt(word.substring(4)));
      } else if (word.startsWith("out")) {
        x.pass(6, Integer.parseInt(word.substring(3)));
      } else if (word.startsWith("#")) {
        x.constant(Integer.parseInt(word.substring(1)));
      } else {
        String[] numbers = word.substring(1).split(",");
        int kind = 1 + "+-*^".indexOf(word.charAt(0));
        x.operate(kind, Integer.parseInt(numbers[0]), Integer.parseInt(numbers[1]));
      }
    }
    return x;
  }

  static void end() {
    System.out.println(wrong == 0 ? "all answers are as due" : wrong + " answers are not as due");
    if (wrong != 0) {
      System.exit(1);
    }
  }
}
