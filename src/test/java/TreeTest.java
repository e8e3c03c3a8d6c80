import com.sun.source.tree.ClassTree;
import com.sun.source.tree.CompilationUnitTree;
import com.sun.source.tree.IdentifierTree;
import com.sun.source.tree.MemberSelectTree;
import com.sun.source.tree.MethodTree;
import com.sun.source.tree.NewArrayTree;
import com.sun.source.tree.NewClassTree;
import com.sun.source.tree.Tree;
import com.sun.source.util.JavacTask;
import com.sun.source.util.TreePathScanner;
import com.sun.source.util.Trees;
import java.io.File;
import java.util.ArrayList;
import java.util.HashMap;
import java.util.HashSet;
import java.util.List;
import java.util.Map;
import java.util.Set;
import java.util.TreeSet;
import javax.lang.model.element.Element;
import javax.lang.model.element.ElementKind;
import javax.lang.model.element.Modifier;
import javax.tools.JavaCompiler;
import javax.tools.StandardJavaFileManager;
import javax.tools.ToolProvider;

/**
 * What of LANGUAGE.md the compiler's tree of the class tells: what it takes from the library (rule 4), which kinds of
 * code it has none of (2, 6), that nothing calls itself and calls go at most eight deep (8, 11), and that objects and
 * arrays are made in constructors alone, so that a run's room is what its constructors make (12).
 */
public final class TreeTest {
  private static final String SOURCE = "src/main/java/BowingBridges.java";
  private static final Set<String> LIBRARY = Set.of(
      "java.util.Arrays.fill", "java.lang.System.arraycopy", "java.lang.Math.min", "java.lang.Math.max",
      "java.lang.Integer.bitCount");
  private static final Set<Tree.Kind> RULED_OUT = Set.of(
      Tree.Kind.LAMBDA_EXPRESSION, Tree.Kind.MEMBER_REFERENCE, Tree.Kind.TRY, Tree.Kind.CATCH, Tree.Kind.THROW,
      Tree.Kind.SYNCHRONIZED, Tree.Kind.ASSERT, Tree.Kind.TYPE_CAST, Tree.Kind.INSTANCE_OF, Tree.Kind.WHILE_LOOP,
      Tree.Kind.DO_WHILE_LOOP, Tree.Kind.ANNOTATION);
  private static final int DEEPEST = 8;
  private static int wrong = 0;

  private static void check(boolean fine, String what) {
    if (!fine) {
      wrong++;
      System.out.println("against the rules: " + what);
    }
  }

  public static void main(String[] args) throws Exception {
    JavaCompiler compiler = ToolProvider.getSystemJavaCompiler();
    try (StandardJavaFileManager files = compiler.getStandardFileManager(null, null, null)) {
      JavacTask task = (JavacTask) compiler.getTask(null, files, null, List.of("-proc:none"), null,
          files.getJavaFileObjects(new File(SOURCE)));
      List<CompilationUnitTree> units = new ArrayList<>();
      task.parse().forEach(units::add);
      task.analyze();
      Look look = new Look(Trees.instance(task));
      units.forEach(unit -> look.scan(unit, null));
      depths(look.calls);
    }
    System.out.println(wrong == 0 ? "the rules are kept" : wrong + " things are against the rules");
    if (wrong != 0) {
      System.exit(1);
    }
  }

  private static void depths(Map<String, Set<String>> calls) {
    check(calls.size() > 34, "only " + calls.size() + " methods were looked at");
    for (String method : calls.keySet()) {
      List<String> chain = deepest(method, calls, new HashSet<>());
      check(chain.size() <= DEEPEST, "calls " + chain.size() + " deep: " + chain);
    }
  }

  private static List<String> deepest(String method, Map<String, Set<String>> calls, Set<String> open) {
    List<String> best = new ArrayList<>();
    if (!open.add(method)) {
      check(false, method + " calls itself");
      return best;
    }
    for (String next : calls.getOrDefault(method, Set.of())) {
      List<String> chain = deepest(next, calls, open);
      if (chain.size() > best.size()) {
        best = chain;
      }
    }
    open.remove(method);
    best.add(0, method);
    return best;
  }

  private static final class Look extends TreePathScanner<Void, Void> {
    private final Trees trees;
    private final Map<String, Set<String>> calls = new HashMap<>();
    private String method = "";

    Look(Trees trees) {
      this.trees = trees;
    }

    @Override
    public Void scan(Tree tree, Void none) {
      boolean allowed = tree == null || !RULED_OUT.contains(tree.getKind()) || isFine(tree);
      check(allowed, "in " + method + ": " + (allowed ? "" : tree.getKind() + " " + tree));
      return super.scan(tree, none);
    }

    /** Casts among numbers, and the one loop that ends with the bridges. */
    private static boolean isFine(Tree tree) {
      String code = tree.toString();
      return code.startsWith("(byte)") || code.startsWith("(short)") || code.startsWith("(long)")
          || code.startsWith("while (place < bridgeCount &&");
    }

    @Override
    public Void visitMethod(MethodTree tree, Void none) {
      String before = method;
      method = nameOf(trees.getElement(getCurrentPath()));
      calls.putIfAbsent(method, new TreeSet<>());
      super.visitMethod(tree, none);
      method = before;
      return null;
    }

    @Override
    public Void visitIdentifier(IdentifierTree tree, Void none) {
      take(trees.getElement(getCurrentPath()));
      return super.visitIdentifier(tree, none);
    }

    @Override
    public Void visitMemberSelect(MemberSelectTree tree, Void none) {
      take(trees.getElement(getCurrentPath()));
      return super.visitMemberSelect(tree, none);
    }

    @Override
    public Void visitNewClass(NewClassTree tree, Void none) {
      check(isMaking() && tree.getClassBody() == null, method + " makes an object: " + tree);
      take(trees.getElement(getCurrentPath()));
      return super.visitNewClass(tree, none);
    }

    @Override
    public Void visitNewArray(NewArrayTree tree, Void none) {
      check(isMaking(), method + " makes an array: " + tree);
      return super.visitNewArray(tree, none);
    }

    /** In a constructor or, where no method is open, in a field's initialiser. */
    private boolean isMaking() {
      return method.isEmpty() || method.endsWith("<init>");
    }

    @Override
    public Void visitClass(ClassTree tree, Void none) {
      Element its = trees.getElement(getCurrentPath());
      check(its.getEnclosingElement().getKind() == ElementKind.PACKAGE
          || its.getModifiers().contains(Modifier.STATIC), its + " is static");
      return super.visitClass(tree, none);
    }

    private void take(Element used) {
      if (used == null || used.getEnclosingElement() == null) {
        return;
      }
      boolean isMethod = used.getKind() == ElementKind.METHOD || used.getKind() == ElementKind.CONSTRUCTOR;
      String name = nameOf(used);
      if (!name.startsWith("java.")) {
        if (isMethod) {
          calls.computeIfAbsent(method, m -> new TreeSet<>()).add(name);
        }
      } else if (used.getKind().isField() || isMethod && !name.equals("java.lang.Object.<init>")) {
        check(LIBRARY.contains(name), method + " takes " + name + " from the library");
      }
    }

    private static String nameOf(Element its) {
      return its.getEnclosingElement() + "." + its.getSimpleName();
    }
  }
}
