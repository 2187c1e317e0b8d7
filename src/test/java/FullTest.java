/** The greatest library that the document lets be made, where every row is filled to its end. */
final class FullTest {
  private FullTest() {}

  static void run() {
    Testing.test("promises 1 to 33: a full library takes every call", FullTest::full);
    Testing.test("promises 1 to 33: a full library refuses one more", FullTest::fullRefuses);
  }

  private static void full() {
    Patternroom room = Samples.full();
    Testing.same(8L, room.paintings());
    Testing.same(24, room.regions(3));
    Testing.same(20, room.shown(3, 2, 23, 2));
    Testing.same('-', room.failure(2, 3, 23));
    Testing.same(4, room.setValue(2, 9, 91));
    Testing.same(91, room.shown(3, 2, 23, 0));
    Testing.same(20, room.differing(2));
    Testing.same(0, room.differing(7));
    Testing.same(4, room.setReference(2, 9, 0));
    Testing.same(0, room.drop(2, 9));
    Testing.same(4, room.setLimits(80, 20, 20));
    Testing.same(80.0, room.meanContrast(2, 3));
    Testing.same(8, room.uses(9));
    Testing.same(1, room.deprecate(11, 8));
    Testing.same(2, room.deprecate(9, 10));
    Testing.same(8, room.move(11));
    Testing.same(16L, room.paintings());
    Testing.refuses(UnsupportedOperationException.class, () -> room.move(9));
    Testing.same(4, room.setLimits(0, 0, 99));
    Testing.same(8, room.move(9));
    Testing.same(20L, room.paintings());
    Testing.same(10, room.shown(3, 2, 23, 0));
    Testing.same(1.0f, room.passShare());
    Testing.same(true, room.isSound());
  }

  private static void fullRefuses() {
    Patternroom room = Samples.full();
    Testing.refuses(IllegalStateException.class, () -> room.addToken(0, 0));
    Testing.refuses(IllegalStateException.class, () -> room.addComponent(0, 0, 0));
    Testing.refuses(IllegalStateException.class, room::addTheme);
    Testing.refuses(IllegalStateException.class, room::addPage);
    Testing.refuses(IllegalStateException.class, () -> room.addUse(3, 7, 2));
    Testing.refuses(IllegalStateException.class, () -> room.override(3, 11, 1));
    Testing.refuses(IllegalStateException.class, () -> room.snapshot(2, 3));
    Testing.refuses(UnsupportedOperationException.class, () -> room.setSlot(2, 0, 1));
    Testing.same(true, room.isSound());
  }
}
