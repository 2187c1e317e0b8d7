import java.util.NoSuchElementException;

/** Promises 28 to 30. */
final class DeprecationsTest {
  private DeprecationsTest() {}

  static void run() {
    Testing.test("promise 28: deprecate counts the deprecated tokens", DeprecationsTest::deprecate);
    Testing.test("promise 28: deprecate refuses", DeprecationsTest::deprecateRefuses);
    Testing.test("promise 29: uses counts every place", DeprecationsTest::uses);
    Testing.test("promise 29: uses refuses", DeprecationsTest::usesRefuses);
    Testing.test("promise 30: move puts the successor in every place", DeprecationsTest::move);
    Testing.test("promise 30: move takes a deprecated successor too", DeprecationsTest::moveToDeprecated);
    Testing.test("promise 30: move paints published pages anew", DeprecationsTest::movePaints);
    Testing.test("promise 30: move refuses", DeprecationsTest::moveRefuses);
    Testing.test("promise 30: a refused move changes nothing", DeprecationsTest::moveChangesNothing);
    Testing.test("promise 30: move may leave a failing page failing", DeprecationsTest::moveOfFailing);
  }

  private static void deprecate() {
    Patternroom room = Samples.tokens();
    Testing.same(1, room.deprecate(Samples.TITLE, Samples.TEXT));
    Testing.same(1, room.deprecate(Samples.TITLE, Samples.INK));
    Testing.same(2, room.deprecate(Samples.INK, Samples.PAPER));
    Testing.same(3, room.deprecate(Samples.TEXT, Samples.PAPER));
    Testing.same(80, room.value(0, Samples.TITLE));
  }

  private static void deprecateRefuses() {
    Patternroom room = Samples.tokens();
    Testing.refuses(IndexOutOfBoundsException.class, () -> room.deprecate(-1, 0));
    Testing.refuses(IndexOutOfBoundsException.class, () -> room.deprecate(5, 0));
    Testing.refuses(IndexOutOfBoundsException.class, () -> room.deprecate(0, -1));
    Testing.refuses(IndexOutOfBoundsException.class, () -> room.deprecate(0, 5));
    Testing.refuses(IllegalArgumentException.class, () -> room.deprecate(0, 0));
    Testing.refuses(IllegalArgumentException.class, () -> room.deprecate(0, Samples.TEXT));
    Testing.same(1, room.deprecate(Samples.TEXT, 0));
    Testing.refuses(IllegalStateException.class, () -> room.deprecate(Samples.TITLE, Samples.TEXT));
    Testing.refuses(IllegalArgumentException.class, () -> room.deprecate(0, Samples.TEXT));
    Testing.refuses(IllegalArgumentException.class, () -> room.deprecate(Samples.TEXT, Samples.TEXT));
    Testing.same(2, room.deprecate(Samples.TITLE, 0));
  }

  private static void uses() {
    Patternroom room = Samples.tokens();
    room.addTheme();
    Testing.same(1, room.uses(Samples.INK));
    Testing.same(0, room.uses(Samples.PAPER));
    room.setReference(1, Samples.TITLE, Samples.INK);
    Testing.same(2, room.uses(Samples.INK));
    room.addComponent(Samples.INK, Samples.INK, Samples.INK);
    Testing.same(5, room.uses(Samples.INK));
    room.setVariant(0, 1, Samples.INK);
    room.setVariant(0, 2, Samples.INK);
    Testing.same(7, room.uses(Samples.INK));
    room.addPage();
    room.addUse(0, 0, 1);
    room.override(0, Samples.INK, 5);
    Testing.same(7, room.uses(Samples.INK));
    room.setVariant(0, 2, Samples.PAPER);
    room.setValue(1, Samples.TITLE, 0);
    Testing.same(5, room.uses(Samples.INK));
    Testing.same(1, room.uses(Samples.PAPER));
  }

  private static void usesRefuses() {
    Patternroom room = Samples.tokens();
    Testing.refuses(IndexOutOfBoundsException.class, () -> room.uses(-1));
    Testing.refuses(IndexOutOfBoundsException.class, () -> room.uses(5));
  }

  private static void move() {
    Patternroom room = Samples.tokens();
    room.addTheme();
    room.addToken(0, 44);
    room.setReference(1, Samples.TITLE, Samples.INK);
    room.addComponent(Samples.INK, Samples.INK, Samples.INK);
    room.setVariant(0, 1, Samples.INK);
    room.setVariant(0, 2, Samples.INK);
    room.setLimits(0, 0, 99);
    room.addPage();
    room.addUse(0, 0, 1);
    room.override(0, Samples.INK, 7);
    room.deprecate(Samples.INK, 5);
    Testing.same(7, room.move(Samples.INK));
    Testing.same(0, room.uses(Samples.INK));
    Testing.same(7, room.uses(5));
    Testing.same(5, room.setVariant(0, 1, -1));
    Testing.same(5, room.setVariant(0, 2, -1));
    Testing.same(44, room.value(0, Samples.TITLE));
    Testing.same(44, room.value(1, Samples.TITLE));
    Testing.same(80, room.value(0, Samples.INK));
    Testing.same(7, room.valueIn(0, 0, Samples.INK));
    Testing.same(0, room.move(Samples.INK));
    room.publish(0);
    Testing.same(44, room.shown(0, 1, 0, 1));
    Testing.same(44, room.shown(0, 1, 0, 2));
  }

  private static void moveToDeprecated() {
    Patternroom room = Samples.components(1);
    room.deprecate(Samples.TITLE, Samples.TEXT);
    room.deprecate(Samples.TEXT, Samples.INK);
    Testing.same(1, room.uses(Samples.TEXT));
    Testing.same(1, room.move(Samples.TITLE));
    Testing.same(2, room.uses(Samples.TEXT));
    Testing.same(2, room.move(Samples.TEXT));
    Testing.same(3, room.uses(Samples.INK));
    Testing.same(80, room.value(0, Samples.TITLE));
  }

  private static void movePaints() {
    Patternroom room = Samples.published();
    room.addToken(0, 90);
    room.deprecate(Samples.INK, 5);
    Testing.same(1, room.move(Samples.INK));
    Testing.same(1L, room.paintings());
    Testing.same(90, room.shown(0, 0, 0, 0));
    room.addToken(0, 90);
    room.deprecate(5, 6);
    Testing.same(1, room.move(5));
    Testing.same(1L, room.paintings());
  }

  private static void moveRefuses() {
    Patternroom room = Samples.page();
    Testing.refuses(IndexOutOfBoundsException.class, () -> room.move(-1));
    Testing.refuses(IndexOutOfBoundsException.class, () -> room.move(5));
    Testing.refuses(NoSuchElementException.class, () -> room.move(0));
    room.deprecate(Samples.INK, Samples.PAPER);
    Testing.refuses(NoSuchElementException.class, () -> room.move(Samples.PAPER));
    Testing.refuses(UnsupportedOperationException.class, () -> room.move(Samples.INK));
  }

  private static void moveChangesNothing() {
    Patternroom room = Samples.published();
    room.addTheme();
    room.setReference(1, Samples.TITLE, Samples.INK);
    room.setVariant(0, 1, Samples.INK);
    room.setVariant(1, 1, Samples.INK);
    room.addPage();
    room.addUse(1, 1, 1);
    room.override(1, Samples.PAPER, 0);
    room.override(1, Samples.INK, 99);
    room.deprecate(Samples.INK, Samples.PAPER);
    Testing.same(4, room.uses(Samples.INK));
    Testing.refuses(UnsupportedOperationException.class, () -> room.move(Samples.INK));
    Testing.same(4, room.uses(Samples.INK));
    Testing.same(99.0, room.meanContrast(0, 1));
    Testing.same(80, room.value(0, Samples.TITLE));
    Testing.same(80, room.value(1, Samples.TITLE));
    Testing.same(99, room.valueIn(1, 1, Samples.TITLE));
    Testing.same(true, room.passes(0));
    Testing.same(true, room.passes(1));
    Testing.same(Samples.INK, room.setVariant(0, 1, -1));
    Testing.same(Samples.INK, room.setVariant(1, 1, -1));
    Testing.same(1L, room.paintings());
    Testing.same(true, room.isSound());
  }

  private static void moveOfFailing() {
    Patternroom room = Samples.published();
    room.setValue(-1, Samples.SIZE, 1);
    room.deprecate(Samples.INK, Samples.PAPER);
    Testing.same(1, room.move(Samples.INK));
    Testing.same('b', room.failure(0, 0, 0));
    Testing.same(true, room.isStale(0));
    Testing.same(80, room.shown(0, 0, 0, 0));
    Testing.same(0L, room.paintings());
  }
}
