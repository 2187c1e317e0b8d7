/** The greatest library that the document lets be made, where every row is filled to its end. */
final class FullTest {
  private FullTest() {}

  static void run() {
    Testing.test("promises 1 to 33: a full library takes every call", FullTest::full);
    Testing.test("promises 1 to 33: a full library refuses one more", FullTest::fullRefuses);
  }

  /** 12 tokens (fronts 90, backs 10, sizes 20), 8 components, 4 pages of 24 regions, 3 themes. */
  private static Patternroom library() {
    Patternroom room = new Patternroom();
    int[] values = {90, 10, 20};
    for (int t = 0; t < 12; t++) {
      room.addToken(t / 4, values[t % 3]);
    }
    for (int c = 0; c < 8; c++) {
      room.addComponent(9, 10, 11);
      room.setVariant(c, 1, 6);
      room.setVariant(c, 2, 3);
    }
    for (int slot = 0; slot < 3; slot++) {
      room.setSlot(7, slot, slot);
    }
    for (int p = 0; p < 4; p++) {
      room.addPage();
      for (int u = 0; u < 6; u++) {
        room.addUse(p, 7, u % 3);
      }
      for (int t = 0; t < 3; t++) {
        room.override(p, t, values[t]);
      }
      room.publish(p);
    }
    room.addTheme();
    room.addTheme();
    for (int s = 0; s < 8; s++) {
      room.snapshot(s % 3, s % 4);
    }
    return room;
  }

  private static void full() {
    Patternroom room = library();
    Testing.same(8L, room.paintings());
    Testing.same(24, room.regions(3));
    Testing.same(20, room.shown(3, 2, 23, 2));
    Testing.same('-', room.failure(2, 3, 23));
    Testing.same(4, room.setValue(2, 9, 91));
    Testing.same(91, room.shown(3, 2, 23, 0));
    Testing.same(20, room.differing(2));
    Testing.same(0, room.differing(7));
    Testing.same(4, room.setReference(2, 9, 0));
    Testing.same(0, room.drop(2, 9));
    Testing.same(4, room.setLimits(80, 20, 20));
    Testing.same(80.0, room.meanContrast(2, 3));
    Testing.same(8, room.uses(9));
    Testing.same(1, room.deprecate(11, 8));
    Testing.same(2, room.deprecate(9, 10));
    Testing.same(8, room.move(11));
    Testing.same(16L, room.paintings());
    Testing.refuses(UnsupportedOperationException.class, () -> room.move(9));
    Testing.same(4, room.setLimits(0, 0, 99));
    Testing.same(8, room.move(9));
    Testing.same(20L, room.paintings());
    Testing.same(10, room.shown(3, 2, 23, 0));
    Testing.same(1.0f, room.passShare());
    Testing.same(true, room.isSound());
  }

  private static void fullRefuses() {
    Patternroom room = library();
    Testing.refuses(IllegalStateException.class, () -> room.addToken(0, 0));
    Testing.refuses(IllegalStateException.class, () -> room.addComponent(0, 0, 0));
    Testing.refuses(IllegalStateException.class, room::addTheme);
    Testing.refuses(IllegalStateException.class, room::addPage);
    Testing.refuses(IllegalStateException.class, () -> room.addUse(3, 7, 2));
    Testing.refuses(IllegalStateException.class, () -> room.override(3, 11, 1));
    Testing.refuses(IllegalStateException.class, () -> room.snapshot(2, 3));
    Testing.refuses(UnsupportedOperationException.class, () -> room.setSlot(2, 0, 1));
    Testing.same(true, room.isSound());
  }
}
