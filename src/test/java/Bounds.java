import java.util.function.ObjIntConsumer;
import java.util.function.Supplier;

/** Tests of the bounds of an argument: which numbers are taken, and which are the first refused. */
final class Bounds {
  private Bounds() {}

  static void test(
      String argument,
      int least,
      int greatest,
      Class<? extends RuntimeException> due,
      ObjIntConsumer<Patternroom> call) {
    test(argument, least, greatest, due, Samples::rich, call);
  }

  static void test(
      String argument,
      int least,
      int greatest,
      Class<? extends RuntimeException> due,
      Supplier<Patternroom> recipe,
      ObjIntConsumer<Patternroom> call) {
    Testing.test(argument + " " + least + ", the least, is taken",
        () -> call.accept(recipe.get(), least));
    Testing.test(argument + " " + greatest + ", the greatest, is taken",
        () -> call.accept(recipe.get(), greatest));
    refused(argument, least - 1, due, recipe, call);
    refused(argument, greatest + 1, due, recipe, call);
    refused(argument, Integer.MIN_VALUE, due, recipe, call);
    refused(argument, Integer.MAX_VALUE, due, recipe, call);
  }

  private static void refused(
      String argument,
      int number,
      Class<? extends RuntimeException> due,
      Supplier<Patternroom> recipe,
      ObjIntConsumer<Patternroom> call) {
    Refused.test(argument + " " + number + " is refused", due, recipe,
        room -> call.accept(room, number));
  }
}
