import java.util.NoSuchElementException;

/** Promises 14 to 17. */
final class PagesTest {
  private PagesTest() {}

  static void run() {
    Testing.test("promise 14: addPage adds four empty pages", PagesTest::addPage);
    Testing.test("promise 15: addUse appends regions in order", PagesTest::addUse);
    Testing.test("promise 15: addUse paints a published page anew", PagesTest::addUsePaints);
    Testing.test("promise 15: addUse refuses", PagesTest::addUseRefuses);
    Testing.test("promise 15: addUse refuses the seventh", PagesTest::addUseFull);
    Testing.test("promise 16: override puts, changes and ends", PagesTest::override);
    Testing.test("promise 16: override paints its own page anew", PagesTest::overridePaints);
    Testing.test("promise 16: override refuses", PagesTest::overrideRefuses);
    Testing.test("promise 16: override refuses the fourth", PagesTest::overrideFull);
    Testing.test("promise 17: regions counts those of all uses", PagesTest::regions);
    Testing.test("promise 17: regions refuses", PagesTest::regionsRefuses);
  }

  private static void addPage() {
    Patternroom room = Samples.tokens();
    for (int p = 0; p < 4; p++) {
      Testing.same(p, room.addPage());
      Testing.same(0, room.regions(p));
      Testing.same(80, room.valueIn(0, p, Samples.INK));
      Testing.same(false, room.isStale(p));
    }
    Testing.refuses(IllegalStateException.class, room::addPage);
    Testing.same(1, room.publish(3));
  }

  private static void addUse() {
    Patternroom room = Samples.tokens();
    room.addComponent(Samples.INK, Samples.PAPER, Samples.SIZE);
    room.addComponent(Samples.PAPER, Samples.TEXT, Samples.SIZE);
    room.setSlot(1, 1, 0);
    room.addPage();
    Testing.same(1, room.addUse(0, 1, 0));
    Testing.same(2, room.addUse(0, 0, 2));
    Testing.same(3, room.addUse(0, 1, 1));
    Testing.same(5, room.regions(0));
    room.publish(0);
    int[] fronts = {20, 80, 80, 20, 80};
    for (int r = 0; r < fronts.length; r++) {
      Testing.same(fronts[r], room.shown(0, 0, r, 0));
    }
  }

  private static void addUsePaints() {
    Patternroom room = Samples.published();
    room.addUse(0, 1, 0);
    Testing.same(1L, room.paintings());
    Testing.same(80, room.shown(0, 0, 1, 0));
    room.addComponent(Samples.INK, Samples.INK, Samples.SIZE);
    room.addUse(0, 2, 0);
    Testing.same(true, room.isStale(0));
    Testing.same(1L, room.paintings());
    Testing.refuses(NoSuchElementException.class, () -> room.shown(0, 0, 2, 0));
  }

  private static void addUseRefuses() {
    Patternroom room = Samples.page();
    Testing.refuses(IndexOutOfBoundsException.class, () -> room.addUse(-1, 0, 0));
    Testing.refuses(IndexOutOfBoundsException.class, () -> room.addUse(1, 0, 0));
    Testing.refuses(IndexOutOfBoundsException.class, () -> room.addUse(0, -1, 0));
    Testing.refuses(IndexOutOfBoundsException.class, () -> room.addUse(0, 2, 3));
    Testing.refuses(IllegalArgumentException.class, () -> room.addUse(0, 0, -1));
    Testing.refuses(IllegalArgumentException.class, () -> room.addUse(0, 0, 3));
    Testing.same(1, room.regions(0));
  }

  private static void addUseFull() {
    Patternroom room = Samples.page();
    for (int u = 2; u <= 6; u++) {
      Testing.same(u, room.addUse(0, 1, u % 3));
    }
    Testing.refuses(IllegalStateException.class, () -> room.addUse(0, 0, 0));
    Testing.refuses(IllegalArgumentException.class, () -> room.addUse(0, 0, 3));
    Testing.same(6, room.regions(0));
  }

  private static void override() {
    Patternroom room = Samples.page();
    Testing.same(1, room.override(0, Samples.TEXT, 0));
    Testing.same(0, room.valueIn(0, 0, Samples.TITLE));
    Testing.same(1, room.override(0, Samples.TEXT, 99));
    Testing.same(99, room.valueIn(0, 0, Samples.TITLE));
    Testing.same(2, room.override(0, Samples.TITLE, 98));
    Testing.same(98, room.valueIn(0, 0, Samples.TITLE));
    Testing.same(1, room.override(0, Samples.TITLE, -1));
    Testing.same(99, room.valueIn(0, 0, Samples.TITLE));
    Testing.same(0, room.override(0, Samples.TEXT, -1));
    Testing.same(80, room.valueIn(0, 0, Samples.TITLE));
  }

  private static void overridePaints() {
    Patternroom room = Samples.published();
    room.addPage();
    room.addUse(1, 0, 0);
    room.publish(1);
    room.override(0, Samples.INK, 60);
    Testing.same(1L, room.paintings());
    Testing.same(60, room.shown(0, 0, 0, 0));
    Testing.same(80, room.shown(1, 0, 0, 0));
    room.override(0, Samples.TITLE, 60);
    Testing.same(1L, room.paintings());
    room.override(0, Samples.PAPER, 60);
    Testing.same(true, room.isStale(0));
    Testing.same(20, room.shown(0, 0, 0, 1));
    room.override(0, Samples.PAPER, -1);
    Testing.same(1L, room.paintings());
  }

  private static void overrideRefuses() {
    Patternroom room = Samples.page();
    Testing.refuses(IndexOutOfBoundsException.class, () -> room.override(-1, 0, 5));
    Testing.refuses(IndexOutOfBoundsException.class, () -> room.override(1, 0, 5));
    Testing.refuses(IndexOutOfBoundsException.class, () -> room.override(0, -1, 5));
    Testing.refuses(IndexOutOfBoundsException.class, () -> room.override(0, 5, 100));
    Testing.refuses(IllegalArgumentException.class, () -> room.override(0, 0, -2));
    Testing.refuses(IllegalArgumentException.class, () -> room.override(0, 0, 100));
    Testing.refuses(NoSuchElementException.class, () -> room.override(0, 0, -1));
    Testing.same(80, room.valueIn(0, 0, 0));
    Testing.same(1, room.override(0, 0, 0));
  }

  private static void overrideFull() {
    Patternroom room = Samples.page();
    room.override(0, 0, 70);
    room.override(0, 1, 10);
    Testing.same(3, room.override(0, 2, 20));
    Testing.refuses(IllegalStateException.class, () -> room.override(0, 3, 5));
    Testing.refuses(IllegalArgumentException.class, () -> room.override(0, 3, 100));
    Testing.refuses(NoSuchElementException.class, () -> room.override(0, 3, -1));
    Testing.same(70, room.valueIn(0, 0, 3));
    Testing.same(3, room.override(0, 2, 21));
    Testing.same(2, room.override(0, 1, -1));
    Testing.same(3, room.override(0, 3, 5));
  }

  private static void regions() {
    Patternroom room = Samples.components(4);
    room.setSlot(1, 0, 0);
    room.setSlot(2, 0, 1);
    room.setSlot(3, 0, 2);
    room.addPage();
    Testing.same(0, room.regions(0));
    for (int u = 1; u <= 6; u++) {
      room.addUse(0, 3, 0);
      Testing.same(4 * u, room.regions(0));
    }
    room.setSlot(1, 0, -1);
    Testing.same(18, room.regions(0));
    Testing.same('-', room.failure(0, 0, 17));
  }

  private static void regionsRefuses() {
    Patternroom room = Samples.page();
    Testing.refuses(IndexOutOfBoundsException.class, () -> room.regions(-1));
    Testing.refuses(IndexOutOfBoundsException.class, () -> room.regions(1));
  }
}
