import java.lang.reflect.InvocationTargetException;
import java.lang.reflect.Method;
import java.lang.reflect.Modifier;
import java.util.ArrayList;
import java.util.Arrays;
import java.util.List;
import java.util.Set;

/**
 * Each call with all combinations of telling arguments, right and wrong, on libraries of several
 * kinds, as PlainLibrary answers it: so which exception comes first if several of them apply. A library
 * is made anew after each call that may have changed it, so questions and refused calls alone go
 * beyond the 512 calls that the document promises for.
 */
final class ArgumentsTest {
  private static final int[] NUMBERS = {
    Integer.MIN_VALUE, -2, -1, 0, 1, 2, 3, 4, 5, 6, 8, 12, 24, 72, 99, 100, Integer.MAX_VALUE
  };
  private static final Set<String> QUESTIONS = Set.of(
      "value", "valueIn", "valueAnew", "regionsOf", "regions", "failures", "failure", "passes",
      "isStale", "shown", "paintings", "differing", "uses", "passShare", "meanContrast", "isSound");

  private record Call(String name, int... arguments) {}

  private final List<Call> recipe;
  private Patternroom room;
  private PlainLibrary plain;

  private ArgumentsTest(List<Call> recipe) {
    this.recipe = recipe;
    makeAnew();
  }

  static void run() {
    for (Method method : Patternroom.class.getDeclaredMethods()) {
      if (Modifier.isPublic(method.getModifiers())) {
        String name = method.getName();
        int count = method.getParameterCount();
        Testing.test("promises 1 to 33: " + name + " with all kinds of arguments", () -> {
          new ArgumentsTest(List.of()).askAll(name, new int[count], 0);
          new ArgumentsTest(someCalls()).askAll(name, new int[count], 0);
          new ArgumentsTest(fullCalls()).askAll(name, new int[count], 0);
        });
      }
    }
  }

  private static void add(List<Call> calls, String name, int... arguments) {
    calls.add(new Call(name, arguments));
  }

  /** Five tokens, two themes, three components, three pages: one published, one stale, one empty. */
  private static List<Call> someCalls() {
    List<Call> calls = new ArrayList<>();
    int[] values = {80, 20, 16, 50, 9};
    for (int t = 0; t < 5; t++) {
      add(calls, "addToken", Math.max(0, t - 2), values[t]);
    }
    add(calls, "setReference", -1, 4, 3);
    add(calls, "addTheme");
    add(calls, "setReference", 1, 3, 0);
    add(calls, "setValue", 1, 2, 17);
    add(calls, "addComponent", 0, 1, 2);
    add(calls, "addComponent", 4, 1, 2);
    add(calls, "addComponent", 3, 0, 2);
    add(calls, "setVariant", 0, 1, 3);
    add(calls, "setSlot", 1, 1, 0);
    add(calls, "setSlot", 2, 2, 1);
    for (int p = 0; p < 3; p++) {
      add(calls, "addPage");
    }
    add(calls, "addUse", 0, 1, 2);
    add(calls, "addUse", 0, 0, 1);
    add(calls, "override", 0, 3, 60);
    add(calls, "publish", 0);
    add(calls, "addUse", 1, 0, 0);
    add(calls, "publish", 1);
    add(calls, "addUse", 1, 2, 0);
    add(calls, "snapshot", 1, 0);
    add(calls, "deprecate", 4, 3);
    add(calls, "deprecate", 0, 1);
    return calls;
  }

  /** As much of everything as may be; all four pages are published and pass. */
  private static List<Call> fullCalls() {
    List<Call> calls = new ArrayList<>();
    int[] values = {90, 10, 20};
    for (int t = 0; t < 12; t++) {
      add(calls, "addToken", t / 4, values[t % 3]);
    }
    for (int c = 0; c < 8; c++) {
      add(calls, "addComponent", c % 4 * 3, c % 3 * 3 + 1, 11);
    }
    for (int slot = 0; slot < 3; slot++) {
      add(calls, "setSlot", 7, slot, slot);
    }
    for (int p = 0; p < 4; p++) {
      add(calls, "addPage");
      for (int u = 0; u < 6; u++) {
        add(calls, "addUse", p, 7 - u % 2, u % 3);
      }
      for (int t = 0; t < 3; t++) {
        add(calls, "override", p, t + 3, values[t]);
      }
      add(calls, "publish", p);
    }
    add(calls, "addTheme");
    add(calls, "addTheme");
    for (int s = 0; s < 8; s++) {
      add(calls, "snapshot", s % 3, s % 4);
    }
    for (int t = 0; t < 3; t++) {
      add(calls, "deprecate", t + 6, t);
    }
    return calls;
  }

  private static Object answer(Object library, Call call) {
    Class<?>[] types = new Class<?>[call.arguments.length];
    Arrays.fill(types, int.class);
    Object[] arguments = Arrays.stream(call.arguments).boxed().toArray();
    try {
      return library.getClass().getDeclaredMethod(call.name, types).invoke(library, arguments);
    } catch (InvocationTargetException e) {
      return e.getCause().getClass();
    } catch (ReflectiveOperationException e) {
      throw new IllegalStateException(e);
    }
  }

  private void makeAnew() {
    room = new Patternroom();
    plain = new PlainLibrary();
    for (Call call : recipe) {
      compare(call);
    }
  }

  private Object compare(Call call) {
    Object due = answer(plain, call);
    Object got = answer(room, call);
    String place = call.name + Arrays.toString(call.arguments) + ": ";
    Testing.same(place + due, place + got);
    return got;
  }

  private void askAll(String name, int[] arguments, int place) {
    if (place < arguments.length) {
      for (int number : NUMBERS) {
        arguments[place] = number;
        askAll(name, arguments, place + 1);
      }
      return;
    }
    boolean isRefused = compare(new Call(name, arguments)) instanceof Class;
    if (!isRefused && !QUESTIONS.contains(name)) {
      compareAll();
      makeAnew();
    }
  }

  private void compareAll() {
    compare(new Call("paintings"));
    compare(new Call("passShare"));
    compare(new Call("isSound"));
    for (int page = 0; page < 4; page++) {
      compare(new Call("isStale", page));
      for (int theme = 0; theme < 3; theme++) {
        compare(new Call("meanContrast", theme, page));
        for (int region = 0; region < 24; region += 5) {
          compare(new Call("shown", page, theme, region, 0));
          compare(new Call("failure", theme, page, region));
        }
      }
    }
  }
}
