import com.sun.source.tree.ClassTree;
import com.sun.source.tree.CompilationUnitTree;
import com.sun.source.tree.ExpressionTree;
import com.sun.source.tree.MethodInvocationTree;
import com.sun.source.tree.MethodTree;
import com.sun.source.tree.NewArrayTree;
import com.sun.source.tree.NewClassTree;
import com.sun.source.tree.Tree;
import com.sun.source.tree.VariableTree;
import com.sun.source.util.JavacTask;
import com.sun.source.util.TreePath;
import com.sun.source.util.TreePathScanner;
import com.sun.source.util.Trees;
import java.io.File;
import java.io.IOException;
import java.util.EnumMap;
import java.util.HashMap;
import java.util.LinkedHashMap;
import java.util.LinkedHashSet;
import java.util.List;
import java.util.Map;
import java.util.Set;
import javax.lang.model.element.Element;
import javax.lang.model.element.ElementKind;
import javax.lang.model.element.Modifier;
import javax.lang.model.element.VariableElement;
import javax.tools.JavaCompiler;
import javax.tools.StandardJavaFileManager;
import javax.tools.ToolProvider;

/**
 * The class's text keeps to the rules of LANGUAGE.md that its tree of syntax can show. It needs less
 * than they leave (no exception, no text, no list), so some are tested in a narrower form. Each
 * wrong place is printed with the rule's number and its line.
 */
public final class LanguageTests {
  private static final File FILE = new File("src/main/java/SealedLedger.java");
  private static final Set<String> LIBRARY = Set.of("java.lang.Math.min(int,int)", "java.lang.Math.max(int,int)");
  private static final Map<Tree.Kind, Integer> LEFT_OUT = leftOut();
  private static final int MOST_PARAMETERS = 7;
  private static final int MOST_LINES = 60;
  private static final int MOST_DEEP = 8;
  private static final int MOST_CLASSES = 12;
  private static final int MOST_FIELDS = 20;
  private static int wrong = 0;

  private static Map<Tree.Kind, Integer> leftOut() {
    Map<Tree.Kind, Integer> rules = new EnumMap<>(Tree.Kind.class);
    rules.put(Tree.Kind.PACKAGE, 1);
    rules.put(Tree.Kind.LAMBDA_EXPRESSION, 2);
    rules.put(Tree.Kind.MEMBER_REFERENCE, 2);
    rules.put(Tree.Kind.IMPORT, 4);
    rules.put(Tree.Kind.THROW, 6);
    rules.put(Tree.Kind.TRY, 6);
    rules.put(Tree.Kind.SYNCHRONIZED, 6);
    rules.put(Tree.Kind.ASSERT, 6);
    rules.put(Tree.Kind.TYPE_CAST, 6);
    rules.put(Tree.Kind.DIVIDE_ASSIGNMENT, 7);
    rules.put(Tree.Kind.REMAINDER_ASSIGNMENT, 7);
    return rules;
  }

  private static void say(int rule, String what) {
    wrong++;
    System.out.println("rule " + rule + ": " + what);
  }

  /** Walks over the whole text once, judges each place by itself, and notes who calls whom. */
  private static final class Walk extends TreePathScanner<Void, Void> {
    private final Trees trees;
    private final CompilationUnitTree unit;
    private final Map<Element, Set<Element>> calls = new LinkedHashMap<>();
    private int classes = 0;
    private Element method;
    private List<? extends VariableTree> parameters;

    Walk(Trees trees, CompilationUnitTree unit) {
      this.trees = trees;
      this.unit = unit;
    }

    private long lineOf(long position) {
      return unit.getLineMap().getLineNumber(position);
    }

    private long firstLine(Tree tree) {
      return lineOf(trees.getSourcePositions().getStartPosition(unit, tree));
    }

    private long lastLine(Tree tree) {
      return lineOf(trees.getSourcePositions().getEndPosition(unit, tree));
    }

    private void sayAt(int rule, Tree tree, String what) {
      say(rule, "line " + firstLine(tree) + ": " + what);
    }

    private Element elementOf(Tree tree) {
      return trees.getElement(new TreePath(getCurrentPath(), tree));
    }

    private boolean inConstructor() {
      return method != null && method.getKind() == ElementKind.CONSTRUCTOR;
    }

    @Override
    public Void scan(Tree tree, Void nothing) {
      if (tree != null && LEFT_OUT.containsKey(tree.getKind())) {
        sayAt(LEFT_OUT.get(tree.getKind()), tree, "the class needs no " + tree.getKind());
      }
      return super.scan(tree, nothing);
    }

    @Override
    public Void visitClass(ClassTree tree, Void nothing) {
      classes++;
      if (method != null) {
        sayAt(2, tree, "a class inside a method");
      }
      int fields = 0;
      for (Tree member : tree.getMembers()) {
        if (member.getKind() == Tree.Kind.BLOCK) {
          sayAt(5, member, "an initialiser block");
        }
        if (member instanceof VariableTree field && !field.getModifiers().getFlags().contains(Modifier.STATIC)) {
          fields++;
        }
      }
      if (fields > MOST_FIELDS) {
        sayAt(11, tree, fields + " fields in " + tree.getSimpleName());
      }
      return super.visitClass(tree, nothing);
    }

    @Override
    public Void visitVariable(VariableTree tree, Void nothing) {
      VariableElement variable = (VariableElement) trees.getElement(getCurrentPath());
      String type = variable.asType().toString();
      if (!Set.of("int", "boolean", "int[]").contains(type) && !type.startsWith("SealedLedger.")) {
        sayAt(3, tree, variable + " is of the type " + type);
      }
      boolean constant = variable.getModifiers().contains(Modifier.FINAL) && variable.getConstantValue() instanceof Integer;
      if (variable.getModifiers().contains(Modifier.STATIC) && !constant) {
        sayAt(5, tree, variable + " is static and no constant int");
      }
      return super.visitVariable(tree, nothing);
    }

    @Override
    public Void visitMethod(MethodTree tree, Void nothing) {
      method = trees.getElement(getCurrentPath());
      parameters = tree.getParameters();
      calls.computeIfAbsent(method, m -> new LinkedHashSet<>());
      if (parameters.size() > MOST_PARAMETERS) {
        sayAt(11, tree, method + " has " + parameters.size() + " parameters");
      }
      long lines = lastLine(tree) - firstLine(tree) + 1;
      if (lines > MOST_LINES) {
        sayAt(11, tree, method + " has " + lines + " lines");
      }
      super.visitMethod(tree, nothing);
      method = null;
      return null;
    }

    @Override
    public Void visitMethodInvocation(MethodInvocationTree tree, Void nothing) {
      Element called = elementOf(tree.getMethodSelect());
      if (called.getKind() == ElementKind.CONSTRUCTOR) {
        return super.visitMethodInvocation(tree, nothing);
      }
      if (inConstructor()) {
        sayAt(12, tree, "the constructor calls " + called);
      }
      noteCall(tree, called);
      if (called.equals(method)) {
        checkCallOfItself(tree);
      }
      return super.visitMethodInvocation(tree, nothing);
    }

    private void noteCall(Tree tree, Element called) {
      String owner = called.getEnclosingElement().toString();
      if (!owner.equals("SealedLedger") && !owner.startsWith("SealedLedger.")) {
        if (!LIBRARY.contains(owner + "." + called)) {
          sayAt(4, tree, "the library's " + owner + "." + called);
        }
        return;
      }
      if (method == null) {
        sayAt(5, tree, "a call outside of the methods");
        return;
      }
      calls.get(method).add(called);
    }

    /** By the letter of rule 8: private, static, and with one argument that counts down the depth. */
    private void checkCallOfItself(MethodInvocationTree tree) {
      if (!method.getModifiers().containsAll(Set.of(Modifier.PRIVATE, Modifier.STATIC))) {
        sayAt(8, tree, method + " calls itself and is not private and static");
      }
      boolean counted = false;
      for (int j = 0; j < parameters.size(); j++) {
        counted |= tree.getArguments().get(j).toString().equals(parameters.get(j).getName() + " - 1");
      }
      if (!counted) {
        sayAt(8, tree, method + " calls itself without an argument for the depth");
      }
    }

    @Override
    public Void visitNewClass(NewClassTree tree, Void nothing) {
      if (!inConstructor()) {
        sayAt(12, tree, "an object is made outside of the constructors");
      } else {
        calls.get(method).add(trees.getElement(getCurrentPath()));
      }
      for (ExpressionTree argument : tree.getArguments()) {
        Element handed = elementOf(argument);
        if (argument.toString().equals("this") || handed != null && handed.getKind() == ElementKind.FIELD) {
          sayAt(12, tree, "the constructor hands out " + argument + " of the object that it makes");
        }
      }
      return super.visitNewClass(tree, nothing);
    }

    @Override
    public Void visitNewArray(NewArrayTree tree, Void nothing) {
      if (!inConstructor()) {
        sayAt(12, tree, "an array is made outside of the constructors");
      }
      return super.visitNewArray(tree, nothing);
    }
  }

  /** How many calls stand open at once, at most, below and with this method; its own apart. */
  private static int depth(Element method, Map<Element, Set<Element>> calls, Map<Element, Integer> known) {
    if (known.containsKey(method)) {
      int deep = known.get(method);
      if (deep == 0) {
        say(8, method + " is called in a circle of several methods");
      }
      return deep;
    }
    known.put(method, 0);
    int below = 0;
    for (Element called : calls.getOrDefault(method, Set.of())) {
      if (!called.equals(method)) {
        below = Math.max(below, depth(called, calls, known));
      }
    }
    known.put(method, below + 1);
    return below + 1;
  }

  private static void checkDepths(Map<Element, Set<Element>> calls) {
    Map<Element, Integer> known = new HashMap<>();
    for (Element method : calls.keySet()) {
      int deep = depth(method, calls, known);
      if (deep > MOST_DEEP) {
        say(11, method + " goes " + deep + " calls deep");
      }
    }
  }

  private static void check(JavacTask task) throws IOException {
    CompilationUnitTree unit = task.parse().iterator().next();
    task.analyze();
    if (unit.getTypeDecls().size() != 1) {
      say(1, unit.getTypeDecls().size() + " classes stand beside each other");
    }
    Walk walk = new Walk(Trees.instance(task), unit);
    walk.scan(unit, null);
    checkDepths(walk.calls);
    if (walk.classes > MOST_CLASSES) {
      say(11, walk.classes + " classes");
    }
  }

  public static void main(String[] args) throws IOException {
    JavaCompiler compiler = ToolProvider.getSystemJavaCompiler();
    try (StandardJavaFileManager files = compiler.getStandardFileManager(null, null, null)) {
      check((JavacTask) compiler.getTask(null, files, null, List.of("-proc:none"), null, files.getJavaFileObjects(FILE)));
    }
    System.out.println(wrong == 0 ? "the text is as the rules say" : wrong + " places are not as the rules say");
    if (wrong != 0) System.exit(1);
  }
}
