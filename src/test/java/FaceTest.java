import java.lang.reflect.Constructor;
import java.lang.reflect.Field;
import java.lang.reflect.Method;
import java.lang.reflect.Modifier;
import java.util.ArrayList;
import java.util.Arrays;
import java.util.Collections;
import java.util.List;

/** The public face: the document's constructor and methods, with their exceptions, and no others. */
public final class FaceTest {
  private static final String INDEX = "IndexOutOfBoundsException";
  private static final String ARGUMENT = "IllegalArgumentException";
  private static final String STATE = "IllegalStateException";

  private static final String[] FACE = {
    "int constant(int) " + STATE,
    "int operate(int,int,int) " + INDEX + " " + ARGUMENT + " " + STATE,
    "int pass(int,int) " + INDEX + " " + ARGUMENT + " " + STATE,
    "int change(int,int) " + INDEX + " " + ARGUMENT,
    "int cut(int) " + ARGUMENT,
    "int size()",
    "int kind(int) " + INDEX,
    "boolean counts(int) " + INDEX,
    "int nextUse(int,int) " + INDEX,
    "int pressure(int) " + INDEX,
    "int setRegisters(int) " + ARGUMENT,
    "int allocate()",
    "boolean isAllocated()",
    "int step(int,int) " + STATE + " " + INDEX,
    "int stepCount(int) " + STATE + " " + INDEX,
    "int slots() " + STATE,
    "int pieceCount() " + STATE,
    "int piece(int,int) " + STATE + " " + INDEX,
    "int comfortable()",
    "int run() " + STATE,
    "int output(int) " + INDEX,
    "long digest()"
  };

  public static void main(String[] args) {
    Class<?> face = RegisterAllocator.class;
    Check.due("modifiers of the class", Modifier.toString(face.getModifiers()), "public final");
    List<String> found = new ArrayList<>();
    for (Method method : face.getDeclaredMethods()) {
      if (!Modifier.isPrivate(method.getModifiers())) {
        Check.due("modifiers of " + method.getName(), Modifier.toString(method.getModifiers()), "public");
        found.add(told(method));
      } else {
        noNameOfTheFace(method);
      }
    }
    List<String> due = new ArrayList<>(Arrays.asList(FACE));
    Collections.sort(due);
    Collections.sort(found);
    Check.due("the methods", found, due);
    Constructor<?>[] constructors = face.getDeclaredConstructors();
    Check.due("the number of constructors", constructors.length, 1);
    Check.due("the constructor", constructors[0].toString(), "public RegisterAllocator()");
    for (Field field : face.getDeclaredFields()) {
      Check.due("field " + field.getName() + " is private", Modifier.isPrivate(field.getModifiers()), true);
      Check.due("field " + field.getName() + " is final if it is static",
          !Modifier.isStatic(field.getModifiers()) || Modifier.isFinal(field.getModifiers()), true);
    }
    for (Class<?> inside : face.getDeclaredClasses()) {
      Check.due("class " + inside.getName() + " is private and static",
          Modifier.isPrivate(inside.getModifiers()) && Modifier.isStatic(inside.getModifiers()), true);
    }
    Check.end();
  }

  private static String told(Method method) {
    StringBuilder text = new StringBuilder(method.getReturnType() + " " + method.getName() + "(");
    for (Class<?> type : method.getParameterTypes()) {
      text.append(text.charAt(text.length() - 1) == '(' ? "" : ",").append(type);
    }
    text.append(")");
    for (Class<?> type : method.getExceptionTypes()) {
      text.append(" ").append(type.getSimpleName());
    }
    return text.toString();
  }

  private static void noNameOfTheFace(Method method) {
    for (String one : FACE) {
      Check.due("private " + method.getName() + " has the name of a public method",
          one.contains(" " + method.getName() + "("), false);
    }
  }
}
