import java.util.HashSet;
import java.util.Set;
import java.util.function.Supplier;

/** Runs tests, counts them and says which failed. */
final class Testing {
  private static int passed = 0;
  private static int failed = 0;
  private static final Set<String> NAMES = new HashSet<>();

  private Testing() {}

  static void test(String name, Runnable body) {
    try {
      if (!NAMES.add(name)) {
        throw new AssertionError("two tests have this name");
      }
      body.run();
      passed++;
    } catch (RuntimeException | AssertionError e) {
      failed++;
      System.out.println("FAILED: " + name + ": " + e);
    }
  }

  static void same(Object due, Object got) {
    if (!due.equals(got)) {
      throw new AssertionError("due is " + due + ", answered was " + got);
    }
  }

  /** The very class is asked for, as one above or below it is another exception. */
  static void refuses(Class<? extends RuntimeException> due, Runnable call) {
    Class<?> got = null;
    try {
      call.run();
    } catch (RuntimeException e) {
      got = e.getClass();
    }
    if (got != due) {
      throw new AssertionError("due is " + due + ", thrown was " + got);
    }
  }

  /** What a call answers, or the class of what it throws. */
  static Object outcome(Supplier<Object> call) {
    try {
      return call.get();
    } catch (RuntimeException e) {
      return e.getClass();
    }
  }

  static boolean hasTestOf(String promise) {
    return NAMES.stream().anyMatch(name -> name.startsWith(promise + ":"));
  }

  static boolean finish() {
    System.out.println("own: " + passed + " passed, " + failed + " failed");
    return failed == 0;
  }
}
