import com.sun.source.tree.*;
import com.sun.source.util.JavacTask;
import com.sun.source.util.SourcePositions;
import com.sun.source.util.TreePath;
import com.sun.source.util.TreePathScanner;
import com.sun.source.util.Trees;
import java.io.IOException;
import java.nio.charset.StandardCharsets;
import java.nio.file.Files;
import java.nio.file.Path;
import java.util.ArrayList;
import java.util.EnumSet;
import java.util.LinkedHashMap;
import java.util.LinkedHashSet;
import java.util.List;
import java.util.Map;
import java.util.Set;
import javax.lang.model.element.Element;
import javax.lang.model.element.ElementKind;
import javax.lang.model.element.Modifier;
import javax.tools.JavaCompiler;
import javax.tools.StandardJavaFileManager;
import javax.tools.ToolProvider;

/**
 * The rules of LANGUAGE.md, on the tree that the compiler makes of the class. What the class does without
 * is ruled out here though LANGUAGE.md would allow it (lists, inheritance, try): whoever needs it looks at its rule
 * then. Rule 1 is in FaceTest; that no call throws by itself (rule 7) is in RefusalTest and ReferenceTest. It runs in
 * the project's folder.
 */
public final class LanguageTest extends TreePathScanner<Void, Void> {
  private static final Path SOURCE = Path.of("src/main/java/RegisterAllocator.java");
  private static final Set<String> TYPES = Set.of("int", "long", "boolean", "int[]", "boolean[]", "void");
  private static final Set<String> LIBRARY = Set.of("java.lang.Math.max", "java.lang.Math.min", "java.lang.Object.Object");
  private static final Set<Tree.Kind> RULED_OUT = EnumSet.of(Tree.Kind.LAMBDA_EXPRESSION, Tree.Kind.MEMBER_REFERENCE,
      Tree.Kind.TRY, Tree.Kind.INSTANCE_OF, Tree.Kind.TYPE_CAST, Tree.Kind.SYNCHRONIZED, Tree.Kind.ASSERT,
      Tree.Kind.NULL_LITERAL, Tree.Kind.DIVIDE, Tree.Kind.REMAINDER, Tree.Kind.DIVIDE_ASSIGNMENT,
      Tree.Kind.REMAINDER_ASSIGNMENT, Tree.Kind.WHILE_LOOP, Tree.Kind.DO_WHILE_LOOP, Tree.Kind.ENHANCED_FOR_LOOP,
      Tree.Kind.DOUBLE_LITERAL, Tree.Kind.FLOAT_LITERAL, Tree.Kind.IMPORT, Tree.Kind.PACKAGE);

  private static final int MOST_CLASSES = 12;
  private static final int MOST_FIELDS = 20;
  private static final int MOST_LINES = 60;
  private static final int MOST_PARAMETERS = 7;
  private static final int MOST_DEPTH = 8;

  private final Trees trees;
  private final CompilationUnitTree unit;
  private final Map<String, Set<String>> callsOf = new LinkedHashMap<>();
  private final Set<String> ownClasses = new LinkedHashSet<>();

  private LanguageTest(Trees trees, CompilationUnitTree unit) {
    this.trees = trees;
    this.unit = unit;
  }

  public static void main(String[] args) throws IOException {
    for (char c : Files.readString(SOURCE, StandardCharsets.ISO_8859_1).toCharArray()) {
      Check.due("rule 4: the sign " + (int) c + " is one of 1 to 127", c >= 1 && c <= 127, true);
    }
    JavaCompiler compiler = ToolProvider.getSystemJavaCompiler();
    try (StandardJavaFileManager files = compiler.getStandardFileManager(null, null, null)) {
      JavacTask task = (JavacTask) compiler.getTask(null, files, null, List.of("-proc:none"), null,
          files.getJavaFileObjects(SOURCE));
      CompilationUnitTree unit = task.parse().iterator().next();
      task.analyze();
      LanguageTest test = new LanguageTest(Trees.instance(task), unit);
      test.scan(unit, null);
      test.classesAndDepth();
    }
    Check.end();
  }

  @Override
  public Void scan(Tree tree, Void nothing) {
    if (tree != null) {
      Check.due("line " + line(tree) + ": a " + tree.getKind() + " stands in the source",
          RULED_OUT.contains(tree.getKind()), false);
    }
    return super.scan(tree, nothing);
  }

  private long line(Tree tree) {
    return unit.getLineMap().getLineNumber(Math.max(0, trees.getSourcePositions().getStartPosition(unit, tree)));
  }

  private static String told(Element element) {
    String name = element.getKind() == ElementKind.CONSTRUCTOR ? element.getEnclosingElement().getSimpleName().toString()
        : element.getSimpleName().toString();
    return element.getEnclosingElement() + "." + name;
  }

  @Override
  public Void visitClass(ClassTree tree, Void nothing) {
    Element element = trees.getElement(getCurrentPath());
    ownClasses.add(element.toString());
    boolean inside = element.getEnclosingElement().getKind() == ElementKind.CLASS;
    Check.due("rule 2: " + element + " is static, if it is inside", element.getModifiers().contains(Modifier.STATIC), inside);
    Check.due("rule 2: " + element + " is a class", element.getKind(), ElementKind.CLASS);
    Check.due("rule 2: " + element + " extends no other", tree.getExtendsClause() == null, true);
    long fields = element.getEnclosedElements().stream()
        .filter(one -> one.getKind() == ElementKind.FIELD && !one.getModifiers().contains(Modifier.STATIC)).count();
    Check.due("rule 11: " + element + " has " + fields + " fields, few", fields <= MOST_FIELDS, true);
    for (Tree member : tree.getMembers()) {
      Check.due("rule 5: a block stands in " + element, member.getKind() == Tree.Kind.BLOCK, false);
    }
    return super.visitClass(tree, nothing);
  }

  @Override
  public Void visitVariable(VariableTree tree, Void nothing) {
    Element element = trees.getElement(getCurrentPath());
    String type = element.asType().toString();
    boolean own = type.startsWith("RegisterAllocator");
    Check.due("rule 3: " + element + " in line " + line(tree) + " is of the type " + type, own || TYPES.contains(type), true);
    if (element.getModifiers().contains(Modifier.STATIC)) {
      Set<Modifier> modifiers = element.getModifiers();
      boolean constant = ((javax.lang.model.element.VariableElement) element).getConstantValue() != null;
      Check.due("rule 5: " + element + " is final and a constant", modifiers.contains(Modifier.FINAL) && constant, true);
    }
    return super.visitVariable(tree, nothing);
  }

  @Override
  public Void visitMethod(MethodTree tree, Void nothing) {
    Element element = trees.getElement(getCurrentPath());
    Check.due("rule 8: the name " + told(element) + " stands for one method", callsOf.containsKey(told(element)), false);
    callsOf.put(told(element), new LinkedHashSet<>());
    SourcePositions positions = trees.getSourcePositions();
    long lines = unit.getLineMap().getLineNumber(positions.getEndPosition(unit, tree)) - line(tree) + 1;
    Check.due("rule 11: " + told(element) + " has " + lines + " lines, few", lines <= MOST_LINES, true);
    Check.due("rule 11: " + told(element) + " has few parameters", tree.getParameters().size() <= MOST_PARAMETERS, true);
    return super.visitMethod(tree, nothing);
  }

  private Element methodAround(TreePath path) {
    TreePath at = path;
    while (at.getLeaf().getKind() != Tree.Kind.METHOD) {
      at = at.getParentPath();
    }
    return trees.getElement(at);
  }

  private void calls(Tree tree, Element called) {
    Element caller = methodAround(getCurrentPath());
    boolean own = called.getEnclosingElement().toString().startsWith("RegisterAllocator");
    if (own) {
      callsOf.get(told(caller)).add(told(called));
    } else {
      Check.due("rule 4: line " + line(tree) + " calls " + told(called), LIBRARY.contains(told(called)), true);
    }
  }

  @Override
  public Void visitMethodInvocation(MethodInvocationTree tree, Void nothing) {
    calls(tree, trees.getElement(getCurrentPath()));
    return super.visitMethodInvocation(tree, nothing);
  }

  @Override
  public Void visitNewClass(NewClassTree tree, Void nothing) {
    if (getCurrentPath().getParentPath().getLeaf().getKind() != Tree.Kind.THROW) {
      Check.due("rule 12: line " + line(tree) + " makes an object in a constructor",
          methodAround(getCurrentPath()).getKind(), ElementKind.CONSTRUCTOR);
      Check.due("rule 2: line " + line(tree) + " has no class body", tree.getClassBody() == null, true);
      calls(tree, trees.getElement(getCurrentPath()));
    }
    return super.visitNewClass(tree, nothing);
  }

  @Override
  public Void visitNewArray(NewArrayTree tree, Void nothing) {
    Check.due("rule 12: line " + line(tree) + " makes a row in a constructor",
        methodAround(getCurrentPath()).getKind(), ElementKind.CONSTRUCTOR);
    return super.visitNewArray(tree, nothing);
  }

  @Override
  public Void visitThrow(ThrowTree tree, Void nothing) {
    Check.due("rule 6: line " + line(tree) + " throws one of the document's exceptions with a written text",
        tree.toString().matches("throw new (IllegalState|IllegalArgument|IndexOutOfBounds)Exception\\(\"[ -~]*\"\\);"), true);
    Check.due("rule 6: line " + line(tree) + " throws in a method", methodAround(getCurrentPath()).getKind(), ElementKind.METHOD);
    return super.visitThrow(tree, nothing);
  }

  /** A loop counts a variable of its own up or down against a bound, and nothing else in it sets that variable. */
  @Override
  public Void visitForLoop(ForLoopTree tree, Void nothing) {
    String told = "rule 9: the loop of line " + line(tree);
    Check.due(told + " has one counter", tree.getInitializer().size() == 1 && tree.getUpdate().size() == 1, true);
    String counter = ((VariableTree) tree.getInitializer().get(0)).getName().toString();
    String update = tree.getUpdate().get(0).toString();
    String condition = String.valueOf(tree.getCondition());
    boolean up = update.equals(counter + "++;") && condition.startsWith(counter + " <");
    boolean down = update.equals(counter + "--;") && condition.startsWith(counter + " >");
    Check.due(told + " counts against a bound: " + condition, up || down, true);
    String body = tree.getStatement().toString();
    Check.due(told + " sets its counter inside",
        body.matches("(?s).*\\b" + counter + "(\\+\\+|--| [-+*/]?= ).*"), false);
    return super.visitForLoop(tree, nothing);
  }

  @Override
  public Void visitBinary(BinaryTree tree, Void nothing) {
    boolean texts = tree.getLeftOperand().getKind() == Tree.Kind.STRING_LITERAL
        || tree.getRightOperand().getKind() == Tree.Kind.STRING_LITERAL;
    Check.due("rule 10: line " + line(tree) + " joins texts by +", texts, false);
    return super.visitBinary(tree, nothing);
  }

  private void classesAndDepth() {
    Check.due("rule 11: " + ownClasses.size() + " classes, few", ownClasses.size() <= MOST_CLASSES, true);
    Check.due("methods are found", callsOf.size() > 22, true);
    int deepest = 0;
    for (String method : callsOf.keySet()) {
      deepest = Math.max(deepest, depth(method, new ArrayList<>()));
    }
    Check.due("rule 11: calls go " + deepest + " deep, few", deepest <= MOST_DEPTH, true);
  }

  private int depth(String method, List<String> open) {
    Check.due("rule 8: " + method + " calls itself over " + open, open.contains(method), false);
    int below = 0;
    if (!open.contains(method)) {
      open.add(method);
      for (String called : callsOf.getOrDefault(method, Set.of())) {
        below = Math.max(below, depth(called, open));
      }
      open.remove(method);
    }
    return below + 1;
  }
}
