import java.util.NoSuchElementException;
import java.util.function.Consumer;
import java.util.function.Supplier;

/** Tests of refused calls: each throws the very exception that is due, and changes nothing. */
final class Refused {
  static final Class<IndexOutOfBoundsException> INDEX = IndexOutOfBoundsException.class;
  static final Class<IllegalArgumentException> ARGUMENT = IllegalArgumentException.class;
  static final Class<IllegalStateException> STATE = IllegalStateException.class;
  static final Class<NoSuchElementException> MISSING = NoSuchElementException.class;
  static final Class<UnsupportedOperationException> UNSUPPORTED =
      UnsupportedOperationException.class;
  static final Class<ArithmeticException> ARITHMETIC = ArithmeticException.class;

  private Refused() {}

  static void test(
      String name, Class<? extends RuntimeException> due, Consumer<Patternroom> call) {
    test(name, due, Samples::rich, call);
  }

  static void test(
      String name,
      Class<? extends RuntimeException> due,
      Supplier<Patternroom> recipe,
      Consumer<Patternroom> call) {
    Testing.test(name, () -> {
      Patternroom room = recipe.get();
      Testing.refuses(due, () -> call.accept(room));
      Probes.changesNothing(recipe, call);
    });
  }
}
