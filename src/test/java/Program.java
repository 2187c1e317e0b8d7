import com.sun.source.tree.ClassTree;
import com.sun.source.tree.CompilationUnitTree;
import com.sun.source.tree.MethodInvocationTree;
import com.sun.source.tree.MethodTree;
import com.sun.source.tree.StatementTree;
import com.sun.source.tree.Tree;
import com.sun.source.util.JavacTask;
import com.sun.source.util.TreePath;
import com.sun.source.util.TreePathScanner;
import com.sun.source.util.Trees;
import java.io.IOException;
import java.nio.file.Files;
import java.nio.file.Path;
import java.util.ArrayList;
import java.util.LinkedHashMap;
import java.util.LinkedHashSet;
import java.util.List;
import java.util.Map;
import java.util.Set;
import java.util.function.Consumer;
import javax.lang.model.element.Element;
import javax.lang.model.element.TypeElement;
import javax.lang.model.type.TypeMirror;
import javax.tools.JavaCompiler;
import javax.tools.StandardJavaFileManager;
import javax.tools.ToolProvider;

/** The program as the compiler reads it, for the rules that neither a run nor its members show. */
final class Program {
  static final Path FILE = Path.of("src/main/java/Patternroom.java");

  final String text;
  final CompilationUnitTree unit;
  final List<TreePath> paths = new ArrayList<>();
  /** For each method and constructor, those of the program that it calls. */
  final Map<Element, Set<Element>> calls = new LinkedHashMap<>();
  private final Trees trees;

  Program() {
    try {
      text = Files.readString(FILE);
      JavaCompiler compiler = ToolProvider.getSystemJavaCompiler();
      StandardJavaFileManager files = compiler.getStandardFileManager(null, null, null);
      JavacTask task = (JavacTask) compiler.getTask(
          null, files, null, List.of("-proc:none"), null, files.getJavaFileObjects(FILE));
      unit = task.parse().iterator().next();
      task.analyze();
      trees = Trees.instance(task);
    } catch (IOException e) {
      throw new IllegalStateException(e);
    }
    new TreePathScanner<Void, Void>() {
      @Override
      public Void scan(Tree tree, Void nothing) {
        if (tree == null || isAdded(tree)) {
          return null;
        }
        paths.add(new TreePath(getCurrentPath(), tree));
        return super.scan(tree, nothing);
      }
    }.scan(new TreePath(unit), null);
    each(Tree.Kind.METHOD, path -> calls.put(element(path), new LinkedHashSet<>()));
    each(Tree.Kind.METHOD_INVOCATION, this::addCall);
    each(Tree.Kind.NEW_CLASS, this::addCall);
  }

  /** What the compiler adds, such as a constructor or super(), has no end in the text. */
  private boolean isAdded(Tree tree) {
    boolean isCode = tree instanceof MethodTree || tree instanceof StatementTree;
    return isCode && trees.getSourcePositions().getEndPosition(unit, tree) < 0;
  }

  private void addCall(TreePath path) {
    Set<Element> called = calls.get(element(methodAround(path)));
    if (called != null && isOwn(element(path))) {
      called.add(element(path));
    }
  }

  void each(Tree.Kind kind, Consumer<TreePath> check) {
    for (TreePath path : paths) {
      if (path.getLeaf().getKind() == kind) {
        check.accept(path);
      }
    }
  }

  /** What a declaration declares; of a call, what is called. */
  Element element(TreePath path) {
    if (path.getLeaf() instanceof MethodInvocationTree call) {
      return trees.getElement(new TreePath(path, call.getMethodSelect()));
    }
    return trees.getElement(path);
  }

  Element element(TreePath parent, Tree child) {
    return trees.getElement(new TreePath(parent, child));
  }

  TypeMirror type(TreePath parent, Tree child) {
    return trees.getTypeMirror(new TreePath(parent, child));
  }

  /** The method that a tree stands in; a field stands in none, which has no element. */
  TreePath methodAround(TreePath path) {
    TreePath at = path;
    while (!(at.getLeaf() instanceof MethodTree) && !(at.getLeaf() instanceof ClassTree)) {
      at = at.getParentPath();
    }
    return at;
  }

  /** Whether it is declared in the program. */
  boolean isOwn(Element element) {
    return trees.getTree(element) != null;
  }

  static String name(Element member) {
    return ((TypeElement) member.getEnclosingElement()).getQualifiedName()
        + "." + member.getSimpleName();
  }

  /** The method and all those that it calls, and that these call. */
  Set<Element> reached(Element method) {
    Set<Element> found = new LinkedHashSet<>();
    addReached(found, method);
    return found;
  }

  private void addReached(Set<Element> found, Element method) {
    if (found.add(method)) {
      calls.get(method).forEach(called -> addReached(found, called));
    }
  }

  /** How many calls stand open at most, the method's own included; above the limit it stops. */
  int depth(Element method, int limit) {
    int deepest = 0;
    for (Element called : limit == 0 ? Set.<Element>of() : calls.get(method)) {
      deepest = Math.max(deepest, depth(called, limit - 1));
    }
    return deepest + 1;
  }

  int lines(Tree tree) {
    long start = trees.getSourcePositions().getStartPosition(unit, tree);
    long end = trees.getSourcePositions().getEndPosition(unit, tree);
    return (int) (unit.getLineMap().getLineNumber(end) - unit.getLineMap().getLineNumber(start)) + 1;
  }

  /** Fails with the place in the text. */
  void hold(boolean holds, String what, TreePath path) {
    if (!holds) {
      long start = trees.getSourcePositions().getStartPosition(unit, path.getLeaf());
      throw new AssertionError(
          what + " in line " + unit.getLineMap().getLineNumber(start) + ": " + path.getLeaf());
    }
  }
}
