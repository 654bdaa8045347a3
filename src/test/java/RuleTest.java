import com.sun.source.tree.BinaryTree;
import com.sun.source.tree.ClassTree;
import com.sun.source.tree.CompilationUnitTree;
import com.sun.source.tree.DoWhileLoopTree;
import com.sun.source.tree.ExpressionTree;
import com.sun.source.tree.ForLoopTree;
import com.sun.source.tree.MethodInvocationTree;
import com.sun.source.tree.MethodTree;
import com.sun.source.tree.NewArrayTree;
import com.sun.source.tree.NewClassTree;
import com.sun.source.tree.Tree;
import com.sun.source.tree.TypeCastTree;
import com.sun.source.tree.VariableTree;
import com.sun.source.tree.WhileLoopTree;
import com.sun.source.util.JavacTask;
import com.sun.source.util.TreePath;
import com.sun.source.util.TreePathScanner;
import com.sun.source.util.Trees;
import java.io.File;
import java.util.ArrayList;
import java.util.EnumSet;
import java.util.LinkedHashMap;
import java.util.LinkedHashSet;
import java.util.List;
import java.util.Map;
import java.util.Set;
import javax.lang.model.element.Element;
import javax.lang.model.element.Modifier;
import javax.tools.JavaCompiler;
import javax.tools.StandardJavaFileManager;
import javax.tools.ToolProvider;

/** Those rules of LANGUAGE.md that need the compiler's own reading of the source: who calls what, of which type. */
public final class RuleTest extends TreePathScanner<Void, Void> {
  /** The program uses no more of the library than this; rule 4 allows more. */
  private static final Set<String> LIBRARY = Set.of("java.lang.Math.max(int,int)", "java.lang.Math.min(int,int)",
      "java.lang.Math.abs(int)", "java.lang.Integer.bitCount(int)",
      "java.lang.System.arraycopy(java.lang.Object,int,java.lang.Object,int,int)");
  private static final Set<Tree.Kind> RULED_OUT = EnumSet.of(Tree.Kind.THROW, Tree.Kind.TRY, Tree.Kind.ASSERT,
      Tree.Kind.SYNCHRONIZED, Tree.Kind.LAMBDA_EXPRESSION, Tree.Kind.MEMBER_REFERENCE, Tree.Kind.INSTANCE_OF,
      Tree.Kind.STRING_LITERAL, Tree.Kind.DOUBLE_LITERAL, Tree.Kind.FLOAT_LITERAL);
  private static final int DEEPEST = 8;

  private static int wrong = 0;
  private final Trees trees;
  private final CompilationUnitTree unit;
  private final Map<String, Set<String>> calls = new LinkedHashMap<>();
  private final Set<String> faced = new LinkedHashSet<>();
  private final Map<String, MethodTree> methods = new LinkedHashMap<>();
  private final Set<String> classes = new LinkedHashSet<>();
  private String method = "";

  private RuleTest(Trees trees, CompilationUnitTree unit) {
    this.trees = trees;
    this.unit = unit;
  }

  private static void due(String what, boolean holds) {
    if (holds) return;
    wrong++;
    System.out.println(what);
  }

  private String line(Tree tree) {
    long start = trees.getSourcePositions().getStartPosition(unit, tree);
    return "line " + unit.getLineMap().getLineNumber(start) + ": ";
  }

  private static String nameOf(Element element) {
    return element.getEnclosingElement() + "." + element;
  }

  @Override public Void scan(Tree tree, Void none) {
    if (tree != null) due(line(tree) + "ruled out: " + tree.getKind(), !RULED_OUT.contains(tree.getKind()));
    return super.scan(tree, none);
  }

  @Override public Void visitClass(ClassTree tree, Void none) {
    classes.add(trees.getElement(getCurrentPath()).toString());
    for (Tree member : tree.getMembers()) due(line(member) + "a block of its own", member.getKind() != Tree.Kind.BLOCK);
    return super.visitClass(tree, none);
  }

  @Override public Void visitMethod(MethodTree tree, Void none) {
    Element element = trees.getElement(getCurrentPath());
    String before = method;
    method = nameOf(element);
    methods.put(method, tree);
    calls.put(method, new LinkedHashSet<>());
    if (element.getModifiers().contains(Modifier.PUBLIC)) faced.add(method);
    super.visitMethod(tree, none);
    method = before;
    return null;
  }

  @Override public Void visitMethodInvocation(MethodInvocationTree tree, Void none) {
    Element element = trees.getElement(getCurrentPath());
    // the constructor above each class's own
    if (!element.toString().equals("Object()")) note(tree, element);
    return super.visitMethodInvocation(tree, none);
  }

  @Override public Void visitNewClass(NewClassTree tree, Void none) {
    note(tree, trees.getElement(getCurrentPath()));
    dueMadeAtFirst(tree);
    return super.visitNewClass(tree, none);
  }

  @Override public Void visitNewArray(NewArrayTree tree, Void none) {
    dueMadeAtFirst(tree);
    return super.visitNewArray(tree, none);
  }

  /** Rows are made in constructors and used again (the room is small). */
  private void dueMadeAtFirst(Tree tree) {
    MethodTree within = methods.get(method);
    due(line(tree) + "made behind the constructor", within == null || within.getName().contentEquals("<init>"));
  }

  private void note(Tree tree, Element element) {
    String owner = element.getEnclosingElement().toString();
    boolean own = owner.equals("WaxWings") || owner.startsWith("WaxWings.");
    due(line(tree) + "another library: " + nameOf(element), own || LIBRARY.contains(nameOf(element)));
    if (!method.isEmpty()) calls.get(method).add(nameOf(element));
  }

  @Override public Void visitVariable(VariableTree tree, Void none) {
    String type = trees.getTypeMirror(getCurrentPath()).toString().replace("[]", "");
    due(line(tree) + "a type that is not used here: " + type,
        Set.of("int", "long", "boolean").contains(type) || type.startsWith("WaxWings."));
    return super.visitVariable(tree, none);
  }

  @Override public Void visitTypeCast(TypeCastTree tree, Void none) {
    due(line(tree) + "a cast", Set.of("int", "byte").contains(tree.getType().toString()));
    return super.visitTypeCast(tree, none);
  }

  // ---- rule 7: a divisor is looked at before it divides

  @Override public Void visitBinary(BinaryTree tree, Void none) {
    if (tree.getKind() == Tree.Kind.DIVIDE || tree.getKind() == Tree.Kind.REMAINDER) {
      String divisor = tree.getRightOperand().toString();
      boolean constant = divisor.matches("[1-9][0-9]*|[A-Z_]+");
      String body = method.isEmpty() ? "" : String.valueOf(methods.get(method).getBody());
      boolean lookedAt = body.contains(divisor + " != 0") || body.contains(divisor + " == 0") || body.contains(divisor + " <= 0");
      due(line(tree) + "a divisor that is not looked at: " + divisor, constant || lookedAt);
    }
    return super.visitBinary(tree, none);
  }

  // ---- rule 9: every loop has an end that can be seen

  private void dueBound(Tree loop, ExpressionTree condition) {
    due(line(loop) + "a loop without a bound", condition != null && condition.toString().matches(".*[<>].*"));
  }

  @Override public Void visitForLoop(ForLoopTree tree, Void none) {
    dueBound(tree, tree.getCondition());
    return super.visitForLoop(tree, none);
  }

  @Override public Void visitWhileLoop(WhileLoopTree tree, Void none) {
    dueBound(tree, tree.getCondition());
    return super.visitWhileLoop(tree, none);
  }

  @Override public Void visitDoWhileLoop(DoWhileLoopTree tree, Void none) {
    dueBound(tree, tree.getCondition());
    return super.visitDoWhileLoop(tree, none);
  }

  // ---- rules 8 and 11: how deep calls go

  /** The longest chain of calls from here on in which none comes twice. */
  private List<String> deepest(String from, List<String> open) {
    List<String> best = List.of();
    List<String> behind = new ArrayList<>(open);
    behind.add(from);
    for (String next : calls.getOrDefault(from, Set.of())) {
      if (behind.contains(next)) {
        dueGuarded(next);
        continue;
      }
      List<String> chain = deepest(next, behind);
      if (chain.size() > best.size()) best = chain;
    }
    List<String> all = new ArrayList<>();
    all.add(from);
    all.addAll(best);
    return all;
  }

  private final Set<String> guarded = new LinkedHashSet<>();
  /** What calls itself, perhaps by others, carries its depth and looks at it first. */
  private void dueGuarded(String name) {
    if (!guarded.add(name)) return;
    MethodTree tree = methods.get(name);
    String first = tree.getBody().getStatements().get(0).toString();
    due(line(tree) + "recursion without a guard on its depth: " + name,
        tree.getParameters().get(0).getName().contentEquals("depth") && first.startsWith("if (depth < 0 || depth >"));
  }

  private void depths() {
    for (String face : faced) {
      List<String> chain = deepest(face, List.of());
      due(chain.size() + " calls deep: " + chain, chain.size() <= DEEPEST);
    }
    due("the face is read: " + faced.size(), faced.size() == 48);
    due("twelve classes at most: " + classes, classes.size() <= 12);
  }

  public static void main(String[] args) throws Exception {
    File source = new File(args.length > 0 ? args[0] : "src/main/java/WaxWings.java");
    JavaCompiler compiler = ToolProvider.getSystemJavaCompiler();
    try (StandardJavaFileManager files = compiler.getStandardFileManager(null, null, null)) {
      JavacTask task = (JavacTask) compiler.getTask(null, files, null, List.of("-proc:none"), null, files.getJavaFileObjects(source));
      CompilationUnitTree unit = task.parse().iterator().next();
      task.analyze();
      RuleTest test = new RuleTest(Trees.instance(task), unit);
      test.scan(new TreePath(unit), null);
      test.depths();
    }
    System.out.println(wrong == 0 ? "the source keeps to the rules" : wrong + " places do not keep to the rules");
    if (wrong != 0) System.exit(1);
  }
}
