import java.io.IOException;
import java.lang.reflect.Constructor;
import java.lang.reflect.Field;
import java.lang.reflect.Method;
import java.lang.reflect.Modifier;
import java.nio.file.Files;
import java.nio.file.Path;
import java.util.HashSet;
import java.util.Set;
import java.util.TreeSet;

/** The public face of the document, and LANGUAGE.md's rules 1 and 5 on members. */
final class FaceTest {
  private static final String[] FACE = {
    "int addToken(int, int)",
    "int addTheme()",
    "int setValue(int, int, int)",
    "int setReference(int, int, int)",
    "int drop(int, int)",
    "int value(int, int)",
    "int valueIn(int, int, int)",
    "int valueAnew(int, int, int)",
    "int addComponent(int, int, int)",
    "int setVariant(int, int, int)",
    "int setSlot(int, int, int)",
    "int regionsOf(int)",
    "int addPage()",
    "int addUse(int, int, int)",
    "int override(int, int, int)",
    "int regions(int)",
    "int setLimits(int, int, int)",
    "int failures(int, int)",
    "char failure(int, int, int)",
    "boolean passes(int)",
    "int publish(int)",
    "boolean isStale(int)",
    "int shown(int, int, int, int)",
    "long paintings()",
    "int snapshot(int, int)",
    "int differing(int)",
    "int deprecate(int, int)",
    "int uses(int)",
    "int move(int)",
    "float passShare()",
    "double meanContrast(int, int)",
    "boolean isSound()",
  };

  private static final Path DOCUMENT = Path.of("../shared/DOC.md");

  private FaceTest() {}

  static void run() {
    Testing.test("face: the public methods are those of the document", FaceTest::methods);
    Testing.test("face: each row of the document stands in the class", FaceTest::rows);
    Testing.test("face: the class and its constructor are public", FaceTest::constructor);
    Testing.test("rule 1: nothing else is to be seen from outside", FaceTest::hidden);
    Testing.test("rule 1: no private method bears a public one's name", FaceTest::names);
    Testing.test("rule 5: static fields are final constants", FaceTest::statics);
  }

  private static void methods() {
    Set<String> got = new TreeSet<>();
    for (Method method : Patternroom.class.getDeclaredMethods()) {
      if (Modifier.isPublic(method.getModifiers())) {
        got.add(signature(method));
        Testing.same(false, Modifier.isStatic(method.getModifiers()));
      }
    }
    Testing.same(new TreeSet<>(Set.of(FACE)), got);
  }

  private static String plainText(Path file) {
    try {
      return Files.readString(file).replaceAll("\\s+", " ");
    } catch (IOException e) {
      throw new IllegalStateException(e);
    }
  }

  /** The rows say more than the members do: names of arguments, and exceptions in their order. */
  private static void rows() {
    String head = "public final class Patternroom {";
    String document = plainText(DOCUMENT);
    String program = plainText(Program.FILE);
    int start = document.indexOf(head) + head.length();
    String[] rows = document.substring(start, document.indexOf("}", start)).trim().split(" ?; ?");
    Testing.same(FACE.length + 1, rows.length);
    Testing.same(true, program.contains(head));
    for (String row : rows) {
      Testing.same(row + " " + true, row + " " + program.contains(" " + row + " {"));
    }
  }

  private static String signature(Method method) {
    StringBuilder text = new StringBuilder();
    text.append(method.getReturnType()).append(' ').append(method.getName()).append('(');
    String comma = "";
    for (Class<?> type : method.getParameterTypes()) {
      text.append(comma).append(type);
      comma = ", ";
    }
    return text.append(')').toString();
  }

  private static void constructor() {
    int modifiers = Patternroom.class.getModifiers();
    Testing.same(true, Modifier.isPublic(modifiers) && Modifier.isFinal(modifiers));
    Constructor<?>[] constructors = Patternroom.class.getDeclaredConstructors();
    Testing.same(1, constructors.length);
    Testing.same(true, Modifier.isPublic(constructors[0].getModifiers()));
    Testing.same(0, constructors[0].getParameterCount());
  }

  private static void hidden() {
    for (Method method : Patternroom.class.getDeclaredMethods()) {
      int modifiers = method.getModifiers();
      Testing.same(true, Modifier.isPublic(modifiers) || Modifier.isPrivate(modifiers));
    }
    for (Field field : Patternroom.class.getDeclaredFields()) {
      Testing.same(true, Modifier.isPrivate(field.getModifiers()));
    }
    for (Class<?> inside : Patternroom.class.getDeclaredClasses()) {
      int modifiers = inside.getModifiers();
      Testing.same(true, Modifier.isStatic(modifiers));
      Testing.same(false, Modifier.isPublic(modifiers) || Modifier.isProtected(modifiers));
    }
  }

  private static void names() {
    Set<String> face = new HashSet<>();
    for (Method method : Patternroom.class.getMethods()) {
      face.add(method.getName());
    }
    for (Method method : Patternroom.class.getDeclaredMethods()) {
      if (Modifier.isPrivate(method.getModifiers())) {
        Testing.same(false, face.contains(method.getName()));
      }
    }
    for (Class<?> inside : Patternroom.class.getDeclaredClasses()) {
      for (Method method : inside.getDeclaredMethods()) {
        Testing.same(false, face.contains(method.getName()));
      }
    }
  }

  private static void statics() {
    Set<Class<?>> allowed = Set.of(int.class, long.class, boolean.class, char.class, String.class);
    Set<Class<?>> classes = new HashSet<>(Set.of(Patternroom.class.getDeclaredClasses()));
    classes.add(Patternroom.class);
    for (Class<?> each : classes) {
      for (Field field : each.getDeclaredFields()) {
        if (Modifier.isStatic(field.getModifiers())) {
          Testing.same(true, Modifier.isFinal(field.getModifiers()));
          Testing.same(true, allowed.contains(field.getType()));
        }
      }
    }
  }
}
