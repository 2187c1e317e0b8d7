import java.util.NoSuchElementException;

/** Promises 10 to 13. */
final class ComponentsTest {
  private ComponentsTest() {}

  static void run() {
    Testing.test("promise 10: addComponent takes its three tokens", ComponentsTest::addComponent);
    Testing.test("promise 10: addComponent refuses", ComponentsTest::addComponentRefuses);
    Testing.test("promise 11: setVariant gives and takes a front", ComponentsTest::setVariant);
    Testing.test("promise 11: a variant is of the own region alone", ComponentsTest::variantOfUse);
    Testing.test("promise 11: setVariant refuses", ComponentsTest::setVariantRefuses);
    Testing.test("promise 12: setSlot orders the regions", ComponentsTest::setSlot);
    Testing.test("promise 12: setSlot paints published pages anew", ComponentsTest::setSlotPaints);
    Testing.test("promise 12: setSlot refuses a fifth region", ComponentsTest::setSlotFull);
    Testing.test("promise 12: setSlot refuses", ComponentsTest::setSlotRefuses);
    Testing.test("promise 13: regionsOf counts inner regions", ComponentsTest::regionsOf);
    Testing.test("promise 13: regionsOf refuses", ComponentsTest::regionsOfRefuses);
  }

  private static void addComponent() {
    Patternroom room = Samples.tokens();
    Testing.same(0, room.addComponent(Samples.PAPER, Samples.TITLE, Samples.SIZE));
    Testing.same(1, room.addComponent(Samples.INK, Samples.INK, Samples.INK));
    Testing.same(1, room.regionsOf(0));
    room.addPage();
    room.addUse(0, 0, 2);
    room.publish(0);
    Testing.same(20, room.shown(0, 0, 0, 0));
    Testing.same(80, room.shown(0, 0, 0, 1));
    Testing.same(16, room.shown(0, 0, 0, 2));
  }

  private static void addComponentRefuses() {
    Patternroom room = Samples.components(7);
    int[][] wrong = {{-1, 0, 0}, {5, 0, 0}, {0, -1, 0}, {0, 5, 0}, {0, 0, -1}, {0, 0, 5}};
    for (int[] w : wrong) {
      Testing.refuses(IndexOutOfBoundsException.class, () -> room.addComponent(w[0], w[1], w[2]));
    }
    Testing.same(7, room.addComponent(0, 1, 2));
    Testing.refuses(IllegalStateException.class, () -> room.addComponent(0, 1, 2));
    Testing.refuses(IndexOutOfBoundsException.class, () -> room.addComponent(0, 1, 5));
  }

  private static void setVariant() {
    Patternroom room = Samples.components(1);
    Testing.same(-1, room.setVariant(0, 1, Samples.INK));
    Testing.same(Samples.INK, room.setVariant(0, 1, Samples.TEXT));
    Testing.same(-1, room.setVariant(0, 2, -1));
    Testing.same(Samples.TEXT, room.setVariant(0, 1, -1));
    Testing.same(-1, room.setVariant(0, 1, -1));
  }

  private static void variantOfUse() {
    Patternroom room = Samples.components(2);
    room.setSlot(1, 0, 0);
    room.addPage();
    room.addUse(0, 1, 1);
    room.addUse(0, 1, 2);
    room.addUse(0, 1, 0);
    room.publish(0);
    room.setVariant(0, 1, Samples.PAPER);
    Testing.same(0L, room.paintings());
    room.addToken(0, 99);
    room.setVariant(1, 1, 5);
    Testing.same(1L, room.paintings());
    Testing.same(99, room.shown(0, 0, 0, 0));
    Testing.same(80, room.shown(0, 0, 1, 0));
    Testing.same(80, room.shown(0, 0, 2, 0));
    Testing.same(80, room.shown(0, 0, 4, 0));
    room.setVariant(1, 2, Samples.PAPER);
    Testing.same('c', room.failure(0, 0, 2));
    Testing.same(true, room.isStale(0));
  }

  private static void setVariantRefuses() {
    Patternroom room = Samples.components(1);
    Testing.refuses(IndexOutOfBoundsException.class, () -> room.setVariant(-1, 1, 0));
    Testing.refuses(IndexOutOfBoundsException.class, () -> room.setVariant(1, 1, 0));
    Testing.refuses(IndexOutOfBoundsException.class, () -> room.setVariant(0, 1, -2));
    Testing.refuses(IndexOutOfBoundsException.class, () -> room.setVariant(0, 1, 5));
    Testing.refuses(IndexOutOfBoundsException.class, () -> room.setVariant(0, 0, 5));
    Testing.refuses(IllegalArgumentException.class, () -> room.setVariant(0, 0, 0));
    Testing.refuses(IllegalArgumentException.class, () -> room.setVariant(0, 3, 0));
    Testing.refuses(IllegalArgumentException.class, () -> room.setVariant(0, -1, -1));
    Testing.same(-1, room.setVariant(0, 1, -1));
    Testing.same(-1, room.setVariant(0, 2, -1));
  }

  private static void setSlot() {
    Patternroom room = Samples.tokens();
    room.addComponent(Samples.INK, Samples.PAPER, Samples.SIZE);
    room.addComponent(Samples.PAPER, Samples.INK, Samples.SIZE);
    room.addComponent(Samples.SIZE, Samples.INK, Samples.SIZE);
    Testing.same(-1, room.setSlot(2, 2, 0));
    Testing.same(-1, room.setSlot(2, 0, 1));
    room.addPage();
    room.addUse(0, 2, 0);
    room.publish(0);
    Testing.same(16, room.shown(0, 0, 0, 0));
    Testing.same(20, room.shown(0, 0, 1, 0));
    Testing.same(80, room.shown(0, 0, 2, 0));
    Testing.same(1, room.setSlot(2, 0, 0));
    Testing.same(80, room.shown(0, 0, 1, 0));
    Testing.same(0, room.setSlot(2, 0, -1));
    Testing.same(-1, room.setSlot(2, 0, -1));
    Testing.same(0, room.setSlot(2, 2, -1));
    Testing.same(1, room.regions(0));
  }

  private static void setSlotPaints() {
    Patternroom room = Samples.components(3);
    room.setSlot(2, 1, 1);
    room.addPage();
    room.addUse(0, 2, 0);
    room.publish(0);
    Testing.same(2, room.regions(0));
    room.setSlot(1, 0, 0);
    Testing.same(3, room.regions(0));
    Testing.same(1L, room.paintings());
    Testing.same(80, room.shown(0, 0, 2, 0));
    room.setSlot(1, 0, 0);
    Testing.same(1L, room.paintings());
    room.setSlot(2, 1, -1);
    Testing.same(2L, room.paintings());
    Testing.refuses(NoSuchElementException.class, () -> room.shown(0, 0, 1, 0));
  }

  private static void setSlotFull() {
    Patternroom room = Samples.components(4);
    room.setSlot(1, 0, 0);
    room.setSlot(1, 1, 0);
    Testing.same(3, room.regionsOf(1));
    room.setSlot(2, 0, 1);
    Testing.same(4, room.regionsOf(2));
    // The component 1 itself would have 4, but the component 2 that holds it would have 5.
    Testing.refuses(UnsupportedOperationException.class, () -> room.setSlot(1, 2, 0));
    Testing.refuses(UnsupportedOperationException.class, () -> room.setSlot(3, 0, 2));
    Testing.same(-1, room.setSlot(3, 0, 1));
    Testing.refuses(UnsupportedOperationException.class, () -> room.setSlot(3, 1, 0));
    Testing.same(1, room.setSlot(3, 0, 0));
    Testing.same(2, room.regionsOf(3));
    Testing.same(3, room.regionsOf(1));
    Testing.same(4, room.regionsOf(2));
    Testing.same(1, room.setSlot(2, 0, -1));
    Testing.same(-1, room.setSlot(1, 2, 0));
    Testing.same(4, room.regionsOf(1));
  }

  private static void setSlotRefuses() {
    Patternroom room = Samples.components(2);
    Testing.refuses(IndexOutOfBoundsException.class, () -> room.setSlot(-1, 0, -1));
    Testing.refuses(IndexOutOfBoundsException.class, () -> room.setSlot(2, 0, 0));
    Testing.refuses(IndexOutOfBoundsException.class, () -> room.setSlot(1, 0, -2));
    Testing.refuses(IndexOutOfBoundsException.class, () -> room.setSlot(1, 3, 2));
    Testing.refuses(IllegalArgumentException.class, () -> room.setSlot(1, -1, 0));
    Testing.refuses(IllegalArgumentException.class, () -> room.setSlot(1, 3, 0));
    Testing.refuses(IllegalArgumentException.class, () -> room.setSlot(1, 3, -1));
    Testing.refuses(IllegalArgumentException.class, () -> room.setSlot(1, 0, 1));
    Testing.refuses(IllegalArgumentException.class, () -> room.setSlot(0, 0, 1));
    Testing.refuses(IllegalArgumentException.class, () -> room.setSlot(0, 0, 0));
    Testing.same(-1, room.setSlot(0, 0, -1));
    Testing.same(1, room.regionsOf(1));
  }

  private static void regionsOf() {
    Patternroom room = Samples.components(4);
    room.setSlot(1, 2, 0);
    room.setSlot(2, 0, 1);
    room.setSlot(3, 1, 2);
    Testing.same(1, room.regionsOf(0));
    Testing.same(2, room.regionsOf(1));
    Testing.same(3, room.regionsOf(2));
    Testing.same(4, room.regionsOf(3));
    room.setSlot(1, 2, -1);
    Testing.same(3, room.regionsOf(3));
  }

  private static void regionsOfRefuses() {
    Patternroom room = Samples.components(1);
    Testing.refuses(IndexOutOfBoundsException.class, () -> room.regionsOf(-1));
    Testing.refuses(IndexOutOfBoundsException.class, () -> room.regionsOf(1));
  }
}
