import java.lang.reflect.Array;
import java.lang.reflect.Field;

/** Reaches into a library, as no call can spoil a sound one. */
final class Inside {
  private Inside() {}

  static Object page(Patternroom room, int page) {
    return Array.get(field(room, "pages"), page);
  }

  /** What a page keeps of found values: a row for each theme. */
  static int[][] keptValues(Patternroom room, int page) {
    return (int[][]) field(page(room, page), "keptValues");
  }

  static Object shownView(Patternroom room, int page, int theme) {
    return Array.get(field(page(room, page), "shownViews"), theme);
  }

  /** What a page shows in a theme: three numbers for each region. */
  static int[] shownValues(Patternroom room, int page, int theme) {
    return (int[]) field(shownView(room, page, theme), "values");
  }

  static void put(Object owner, String name, int number) {
    try {
      open(owner, name).setInt(owner, number);
    } catch (ReflectiveOperationException e) {
      throw new IllegalStateException(e);
    }
  }

  private static Object field(Object owner, String name) {
    try {
      return open(owner, name).get(owner);
    } catch (ReflectiveOperationException e) {
      throw new IllegalStateException(e);
    }
  }

  private static Field open(Object owner, String name) throws ReflectiveOperationException {
    Field found = owner.getClass().getDeclaredField(name);
    found.setAccessible(true);
    return found;
  }
}
