import com.sun.source.tree.AssignmentTree;
import com.sun.source.tree.BinaryTree;
import com.sun.source.tree.ClassTree;
import com.sun.source.tree.CompoundAssignmentTree;
import com.sun.source.tree.ExpressionTree;
import com.sun.source.tree.ForLoopTree;
import com.sun.source.tree.IdentifierTree;
import com.sun.source.tree.ImportTree;
import com.sun.source.tree.LiteralTree;
import com.sun.source.tree.MethodTree;
import com.sun.source.tree.NewArrayTree;
import com.sun.source.tree.NewClassTree;
import com.sun.source.tree.ThrowTree;
import com.sun.source.tree.Tree;
import com.sun.source.tree.TypeCastTree;
import com.sun.source.tree.UnaryTree;
import com.sun.source.tree.VariableTree;
import com.sun.source.util.TreePath;
import com.sun.source.util.TreeScanner;
import java.util.EnumSet;
import java.util.LinkedHashSet;
import java.util.Set;
import java.util.TreeSet;
import javax.lang.model.element.Element;
import javax.lang.model.element.ElementKind;
import javax.lang.model.element.ExecutableElement;
import javax.lang.model.element.Modifier;
import javax.lang.model.element.VariableElement;
import javax.lang.model.type.ArrayType;
import javax.lang.model.type.TypeKind;
import javax.lang.model.type.TypeMirror;

/**
 * The rules of LANGUAGE.md held against the program as the compiler reads it. The tests allow what
 * the program has, not all that the rules would allow: a new kind of code is held against the rules
 * first, and then allowed here.
 */
final class LanguageTest {
  private static final int MOST_LINES = 60;
  private static final int MOST_PARAMETERS = 7;
  private static final int MOST_OPEN_CALLS = 8;
  private static final int MOST_CLASSES = 12;
  private static final int MOST_FIELDS = 20;

  private static final Set<String> IMPORTS =
      Set.of("java.util.Arrays", "java.util.NoSuchElementException");
  private static final Set<String> LIBRARY = Set.of(
      "java.lang.Integer.bitCount", "java.lang.Math.abs", "java.lang.Math.max",
      "java.lang.Math.min", "java.lang.System.arraycopy", "java.util.Arrays.fill");
  private static final Set<String> EXCEPTIONS = Set.of(
      "IllegalStateException", "IllegalArgumentException", "IndexOutOfBoundsException",
      "ArithmeticException", "UnsupportedOperationException", "NoSuchElementException",
      "RuntimeException");
  private static final Set<Tree.Kind> KINDS = EnumSet.of(
      Tree.Kind.COMPILATION_UNIT, Tree.Kind.IMPORT, Tree.Kind.CLASS, Tree.Kind.METHOD,
      Tree.Kind.VARIABLE, Tree.Kind.MODIFIERS, Tree.Kind.BLOCK, Tree.Kind.PRIMITIVE_TYPE,
      Tree.Kind.ARRAY_TYPE, Tree.Kind.IF, Tree.Kind.FOR_LOOP, Tree.Kind.RETURN, Tree.Kind.THROW,
      Tree.Kind.EXPRESSION_STATEMENT, Tree.Kind.IDENTIFIER, Tree.Kind.MEMBER_SELECT,
      Tree.Kind.ARRAY_ACCESS, Tree.Kind.METHOD_INVOCATION, Tree.Kind.NEW_ARRAY,
      Tree.Kind.NEW_CLASS, Tree.Kind.TYPE_CAST, Tree.Kind.PARENTHESIZED,
      Tree.Kind.CONDITIONAL_EXPRESSION, Tree.Kind.CONDITIONAL_AND, Tree.Kind.CONDITIONAL_OR,
      Tree.Kind.LOGICAL_COMPLEMENT, Tree.Kind.BITWISE_COMPLEMENT, Tree.Kind.UNARY_MINUS,
      Tree.Kind.PLUS, Tree.Kind.MINUS, Tree.Kind.MULTIPLY, Tree.Kind.DIVIDE, Tree.Kind.AND,
      Tree.Kind.LEFT_SHIFT, Tree.Kind.EQUAL_TO, Tree.Kind.NOT_EQUAL_TO, Tree.Kind.LESS_THAN,
      Tree.Kind.GREATER_THAN, Tree.Kind.LESS_THAN_EQUAL, Tree.Kind.GREATER_THAN_EQUAL,
      Tree.Kind.ASSIGNMENT, Tree.Kind.PLUS_ASSIGNMENT, Tree.Kind.OR_ASSIGNMENT,
      Tree.Kind.POSTFIX_INCREMENT, Tree.Kind.POSTFIX_DECREMENT, Tree.Kind.INT_LITERAL,
      Tree.Kind.CHAR_LITERAL, Tree.Kind.BOOLEAN_LITERAL, Tree.Kind.STRING_LITERAL);

  private final Program program = new Program();

  private LanguageTest() {}

  static void run() {
    LanguageTest test = new LanguageTest();
    Testing.test("rules 2, 6, 9, 10: no code of a kind that was not held against the rules",
        test::kinds);
    Testing.test("rule 2: the classes inside are static and stand in the class itself",
        test::classesInside);
    Testing.test("rule 3: the types are those that the rule lists", test::types);
    Testing.test("rule 3: plain signs alone", test::signs);
    Testing.test("rules 4, 13: nothing of the library but what the rule lists", test::library);
    Testing.test("rule 5: no block stands outside of methods", test::blocks);
    Testing.test("rule 6: throw new E(\"a written text\"), not in a constructor", test::exceptions);
    Testing.test("rule 6: what a call can throw is what the document lists", test::thrown);
    Testing.test("rule 7: no division by a whole number, and casts of numbers alone", test::numbers);
    Testing.test("rule 7: no reference can be null", test::references);
    Testing.test("rule 7: the length of a new array is a constant above 0", test::lengths);
    Testing.test("rules 8, 11: no recursion, and at most eight calls deep", test::depths);
    Testing.test("rule 9: a loop counts up to a bound that its body leaves alone", test::loops);
    Testing.test("rule 11: few parameters, lines, classes and fields", test::sizes);
    Testing.test("rule 12: objects are made by constructors and to be thrown", test::objects);
  }

  private void kinds() {
    for (TreePath path : program.paths) {
      Tree.Kind kind = path.getLeaf().getKind();
      program.hold(KINDS.contains(kind), "the kind " + kind, path);
    }
  }

  private void classesInside() {
    program.each(Tree.Kind.CLASS, path -> {
      Tree around = path.getParentPath().getLeaf();
      boolean isOuter = around == program.unit;
      boolean isInside = around instanceof ClassTree
          && program.element(path).getModifiers().contains(Modifier.STATIC);
      program.hold(isOuter || isInside, "a class", path);
    });
  }

  private boolean isAllowed(TypeMirror type, int dimensions) {
    return switch (type.getKind()) {
      case INT, LONG, BOOLEAN, CHAR -> dimensions <= 2;
      case FLOAT, DOUBLE, VOID -> dimensions == 0;
      case ARRAY -> isAllowed(((ArrayType) type).getComponentType(), dimensions + 1);
      case DECLARED -> dimensions <= 1 && type.toString().startsWith("Patternroom.");
      default -> false;
    };
  }

  private void types() {
    program.each(Tree.Kind.VARIABLE, path -> program.hold(
        isAllowed(program.element(path).asType(), 0), "a type", path));
    program.each(Tree.Kind.METHOD, path -> program.hold(
        isAllowed(((ExecutableElement) program.element(path)).getReturnType(), 0), "a type", path));
  }

  private void signs() {
    Testing.same(true, program.text.chars().allMatch(c -> c == '\n' || c >= 32 && c < 127));
  }

  private void library() {
    program.each(Tree.Kind.IMPORT, path -> {
      ImportTree tree = (ImportTree) path.getLeaf();
      boolean isPlain = !tree.isStatic() && IMPORTS.contains(tree.getQualifiedIdentifier().toString());
      program.hold(isPlain, "an import", path);
    });
    program.each(Tree.Kind.METHOD_INVOCATION, path -> {
      Element called = program.element(path);
      boolean isKnown = program.isOwn(called) || LIBRARY.contains(Program.name(called));
      program.hold(isKnown, "a call", path);
    });
    program.each(Tree.Kind.MEMBER_SELECT, path -> {
      Element selected = program.element(path);
      boolean isField = selected.getKind() == ElementKind.FIELD;
      program.hold(!isField || program.isOwn(selected), "a field of the library", path);
    });
  }

  private void blocks() {
    program.each(Tree.Kind.BLOCK, path -> program.hold(
        !(path.getParentPath().getLeaf() instanceof ClassTree), "a block", path));
  }

  private void exceptions() {
    program.each(Tree.Kind.THROW, path -> {
      ExpressionTree thrown = ((ThrowTree) path.getLeaf()).getExpression();
      boolean isPlain = thrown instanceof NewClassTree made
          && EXCEPTIONS.contains(made.getIdentifier().toString())
          && made.getArguments().stream().allMatch(text -> text instanceof LiteralTree);
      program.hold(isPlain, "a throw", path);
      Element around = program.element(program.methodAround(path));
      program.hold(around.getKind() == ElementKind.METHOD, "a throw in a constructor", path);
    });
  }

  /** The exceptions of all methods that a method reaches, as written behind throw. */
  private Set<String> thrownFrom(Element method) {
    Set<Element> reached = program.reached(method);
    Set<String> found = new TreeSet<>();
    program.each(Tree.Kind.THROW, path -> {
      if (reached.contains(program.element(program.methodAround(path)))) {
        NewClassTree made = (NewClassTree) ((ThrowTree) path.getLeaf()).getExpression();
        found.add(made.getIdentifier().toString());
      }
    });
    return found;
  }

  private void thrown() {
    program.each(Tree.Kind.METHOD, path -> {
      MethodTree method = (MethodTree) path.getLeaf();
      if (method.getModifiers().getFlags().contains(Modifier.PUBLIC)) {
        Set<String> declared = new TreeSet<>();
        method.getThrows().forEach(each -> declared.add(each.toString()));
        Testing.same(method.getName() + " " + declared,
            method.getName() + " " + thrownFrom(program.element(path)));
      }
    });
  }

  private void numbers() {
    program.each(Tree.Kind.DIVIDE, path -> {
      BinaryTree tree = (BinaryTree) path.getLeaf();
      TypeKind kind = program.type(path, tree.getRightOperand()).getKind();
      program.hold(kind == TypeKind.FLOAT || kind == TypeKind.DOUBLE, "a divisor", path);
    });
    program.each(Tree.Kind.TYPE_CAST, path -> {
      TypeCastTree tree = (TypeCastTree) path.getLeaf();
      program.hold(tree.getType().getKind() == Tree.Kind.PRIMITIVE_TYPE, "a cast", path);
      boolean isOfNumber = program.type(path, tree.getExpression()).getKind().isPrimitive();
      program.hold(isOfNumber, "a cast", path);
    });
  }

  /** A field's object is put by its constructor, once; null stands nowhere (see kinds). */
  private void references() {
    program.each(Tree.Kind.VARIABLE, path -> {
      Element variable = program.element(path);
      boolean isField = variable.getKind() == ElementKind.FIELD;
      boolean isNumber = variable.asType().getKind().isPrimitive();
      boolean isFinal = variable.getModifiers().contains(Modifier.FINAL);
      program.hold(!isField || isNumber || isFinal, "a field", path);
      boolean isGiven = ((VariableTree) path.getLeaf()).getInitializer() != null
          || variable.getKind() == ElementKind.PARAMETER;
      program.hold(isField || isNumber || isGiven, "a variable", path);
    });
  }

  private int constant(TreePath path, ExpressionTree tree) {
    if (tree instanceof LiteralTree literal && literal.getValue() instanceof Integer number) {
      return number;
    }
    if (tree instanceof BinaryTree binary) {
      int left = constant(path, binary.getLeftOperand());
      int right = constant(path, binary.getRightOperand());
      program.hold(tree.getKind() == Tree.Kind.MULTIPLY, "a length", path);
      return left * right;
    }
    boolean isConstant = program.element(path, tree) instanceof VariableElement variable
        && variable.getConstantValue() instanceof Integer;
    program.hold(isConstant, "a length", path);
    return (Integer) ((VariableElement) program.element(path, tree)).getConstantValue();
  }

  private void lengths() {
    program.each(Tree.Kind.NEW_ARRAY, path -> {
      NewArrayTree tree = (NewArrayTree) path.getLeaf();
      for (ExpressionTree length : tree.getDimensions()) {
        program.hold(constant(path, length) > 0, "a length", path);
      }
    });
  }

  private void depths() {
    for (Element method : program.calls.keySet()) {
      int depth = program.depth(method, MOST_OPEN_CALLS);
      Testing.same(true, depth <= MOST_OPEN_CALLS);
    }
  }

  /** The variables and fields that a tree gives another value. */
  private Set<String> changedIn(Tree tree) {
    Set<String> changed = new LinkedHashSet<>();
    new TreeScanner<Void, Void>() {
      @Override
      public Void visitAssignment(AssignmentTree node, Void nothing) {
        changed.add(node.getVariable().toString());
        return super.visitAssignment(node, nothing);
      }

      @Override
      public Void visitCompoundAssignment(CompoundAssignmentTree node, Void nothing) {
        changed.add(node.getVariable().toString());
        return super.visitCompoundAssignment(node, nothing);
      }

      @Override
      public Void visitUnary(UnaryTree node, Void nothing) {
        if (node.getKind() == Tree.Kind.POSTFIX_INCREMENT
            || node.getKind() == Tree.Kind.POSTFIX_DECREMENT) {
          changed.add(node.getExpression().toString());
        }
        return super.visitUnary(node, nothing);
      }
    }.scan(tree, null);
    return changed;
  }

  private void loops() {
    program.each(Tree.Kind.FOR_LOOP, path -> {
      ForLoopTree loop = (ForLoopTree) path.getLeaf();
      VariableTree counter = (VariableTree) loop.getInitializer().get(0);
      String name = counter.getName().toString();
      boolean isCounted = loop.getCondition() instanceof BinaryTree condition
          && condition.getKind() == Tree.Kind.LESS_THAN
          && condition.getLeftOperand() instanceof IdentifierTree compared
          && compared.getName().contentEquals(name)
          && !changedIn(loop.getStatement()).contains(condition.getRightOperand().toString());
      program.hold(isCounted, "a loop", path);
      boolean isUpward = loop.getInitializer().size() == 1 && loop.getUpdate().size() == 1
          && loop.getUpdate().get(0).toString().equals(name + "++;");
      program.hold(isUpward && !changedIn(loop.getStatement()).contains(name), "a loop", path);
    });
  }

  private void sizes() {
    program.each(Tree.Kind.METHOD, path -> {
      MethodTree method = (MethodTree) path.getLeaf();
      program.hold(method.getParameters().size() <= MOST_PARAMETERS, "parameters", path);
      program.hold(program.lines(method) <= MOST_LINES, "lines", path);
    });
    int[] classes = {0};
    program.each(Tree.Kind.CLASS, path -> {
      classes[0]++;
      long fields = program.element(path).getEnclosedElements().stream()
          .filter(member -> member.getKind() == ElementKind.FIELD)
          .filter(member -> ((VariableElement) member).getConstantValue() == null)
          .count();
      program.hold(fields <= MOST_FIELDS, "fields", path);
    });
    Testing.same(true, classes[0] <= MOST_CLASSES);
  }

  private void objects() {
    program.each(Tree.Kind.NEW_ARRAY, path -> {
      Element around = program.element(program.methodAround(path));
      program.hold(around.getKind() == ElementKind.CONSTRUCTOR, "a new array", path);
    });
    program.each(Tree.Kind.NEW_CLASS, path -> {
      Element around = program.element(program.methodAround(path));
      boolean isThrown = path.getParentPath().getLeaf() instanceof ThrowTree;
      boolean isMade = around.getKind() == ElementKind.CONSTRUCTOR;
      program.hold(isThrown || isMade, "a new object", path);
    });
  }
}
