import java.lang.reflect.Array;
import java.lang.reflect.Field;
import java.lang.reflect.Modifier;
import java.util.ArrayDeque;
import java.util.Collections;
import java.util.Deque;
import java.util.IdentityHashMap;
import java.util.Set;

/** What an object holds: rule 7 on null, and rule 12 and the work's own limit on what is made. */
final class ObjectsTest {
  // All objects of a run share 600,000 objects and 7.3 million fields and elements.
  private static final int MOST_OBJECTS = 300;
  private static final int MOST_CELLS = 4000;

  private final Set<Object> found = Collections.newSetFromMap(new IdentityHashMap<>());
  private final Deque<Object> open = new ArrayDeque<>();
  private int cells;
  private int nulls;

  private ObjectsTest(Patternroom room) {
    reach(room);
    while (!open.isEmpty()) {
      look(open.pop());
    }
  }

  static void run() {
    Testing.test("rule 7: no reference is null, in a new object or a full one", () -> {
      Testing.same(0, new ObjectsTest(new Patternroom()).nulls);
      Testing.same(0, new ObjectsTest(Samples.full()).nulls);
    });
    Testing.test("rule 12: an object is small", () -> {
      ObjectsTest looked = new ObjectsTest(new Patternroom());
      Testing.same(true, looked.found.size() <= MOST_OBJECTS);
      Testing.same(true, looked.cells <= MOST_CELLS);
    });
    Testing.test("rule 12: no call makes an object that is kept", () -> {
      ObjectsTest due = new ObjectsTest(new Patternroom());
      ObjectsTest got = new ObjectsTest(Samples.full());
      Testing.same(due.found.size(), got.found.size());
      Testing.same(due.cells, got.cells);
    });
    Testing.test("rule 12: calls leave each object in its place", () -> {
      Patternroom room = Samples.rich();
      Set<Object> before = new ObjectsTest(room).found;
      room.setValue(-1, Samples.INK, 85);
      room.setSlot(1, 0, 0);
      room.move(Samples.TEXT);
      room.addTheme();
      room.snapshot(2, 0);
      Testing.same(true, new ObjectsTest(room).found.equals(before));
    });
  }

  private void reach(Object object) {
    if (object == null) {
      nulls++;
    } else if (found.add(object)) {
      open.push(object);
    }
  }

  private void look(Object object) {
    if (object.getClass().isArray()) {
      lookAtArray(object);
      return;
    }
    for (Field field : object.getClass().getDeclaredFields()) {
      if (!Modifier.isStatic(field.getModifiers())) {
        lookAtField(object, field);
      }
    }
  }

  private void lookAtArray(Object array) {
    int length = Array.getLength(array);
    cells += length;
    if (!array.getClass().getComponentType().isPrimitive()) {
      for (int k = 0; k < length; k++) {
        reach(Array.get(array, k));
      }
    }
  }

  private void lookAtField(Object object, Field field) {
    cells++;
    if (!field.getType().isPrimitive()) {
      try {
        field.setAccessible(true);
        reach(field.get(object));
      } catch (IllegalAccessException e) {
        throw new IllegalStateException(e);
      }
    }
  }
}
