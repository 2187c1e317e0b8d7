import java.util.NoSuchElementException;

/** Promises 22 to 27. */
final class PublishingTest {
  private PublishingTest() {}

  static void run() {
    Testing.test("promise 22: publish counts the published pages", PublishingTest::publish);
    Testing.test("promise 22: publish refuses", PublishingTest::publishRefuses);
    Testing.test("promise 23: isStale is for published pages that fail", PublishingTest::isStale);
    Testing.test("promise 23: isStale refuses", PublishingTest::isStaleRefuses);
    Testing.test("promise 24: shown keeps what it showed while stale", PublishingTest::shown);
    Testing.test("promise 24: shown keeps the regions while stale", PublishingTest::shownRegions);
    Testing.test("promise 24: shown refuses", PublishingTest::shownRefuses);
    Testing.test("promise 25: paintings counts each page painted", PublishingTest::paintings);
    Testing.test("promise 25: a stale page is painted when it passes", PublishingTest::paintedAfterStale);
    Testing.test("promise 26: snapshot numbers up to eight", PublishingTest::snapshot);
    Testing.test("promise 26: snapshot refuses", PublishingTest::snapshotRefuses);
    Testing.test("promise 27: differing counts regions once", PublishingTest::differing);
    Testing.test("promise 27: differing counts regions of one alone", PublishingTest::differingRegions);
    Testing.test("promise 27: differing refuses", PublishingTest::differingRefuses);
  }

  private static void publish() {
    Patternroom room = Samples.page();
    room.addPage();
    room.addPage();
    Testing.same(1, room.publish(0));
    Testing.same(2, room.publish(2));
    Testing.same(3, room.publish(1));
    Testing.same(0L, room.paintings());
    Testing.same(80, room.shown(0, 0, 0, 0));
    Testing.same(20, room.shown(0, 0, 0, 1));
    Testing.same(16, room.shown(0, 0, 0, 2));
  }

  private static void publishRefuses() {
    Patternroom room = Samples.page();
    Testing.refuses(IndexOutOfBoundsException.class, () -> room.publish(-1));
    Testing.refuses(IndexOutOfBoundsException.class, () -> room.publish(1));
    room.setValue(-1, Samples.SIZE, 1);
    Testing.refuses(UnsupportedOperationException.class, () -> room.publish(0));
    Testing.refuses(NoSuchElementException.class, () -> room.shown(0, 0, 0, 0));
    room.setValue(-1, Samples.SIZE, 20);
    room.publish(0);
    Testing.refuses(IllegalStateException.class, () -> room.publish(0));
    room.setValue(-1, Samples.SIZE, 1);
    Testing.refuses(IllegalStateException.class, () -> room.publish(0));
  }

  private static void isStale() {
    Patternroom room = Samples.page();
    room.setValue(-1, Samples.SIZE, 1);
    Testing.same(false, room.isStale(0));
    room.setValue(-1, Samples.SIZE, 8);
    room.publish(0);
    Testing.same(false, room.isStale(0));
    room.setValue(-1, Samples.SIZE, 1);
    Testing.same(true, room.isStale(0));
    room.override(0, Samples.SIZE, 30);
    Testing.same(false, room.isStale(0));
  }

  private static void isStaleRefuses() {
    Patternroom room = Samples.page();
    Testing.refuses(IndexOutOfBoundsException.class, () -> room.isStale(-1));
    Testing.refuses(IndexOutOfBoundsException.class, () -> room.isStale(1));
  }

  private static void shown() {
    Patternroom room = Samples.published();
    room.addTheme();
    room.setValue(1, Samples.INK, 70);
    Testing.same(70, room.shown(0, 1, 0, 0));
    Testing.same(80, room.shown(0, 0, 0, 0));
    room.setValue(0, Samples.SIZE, 90);
    room.setValue(1, Samples.INK, 60);
    Testing.same(70, room.shown(0, 1, 0, 0));
    Testing.same(16, room.shown(0, 0, 0, 2));
    room.setValue(0, Samples.SIZE, 40);
    Testing.same(60, room.shown(0, 1, 0, 0));
    Testing.same(40, room.shown(0, 0, 0, 2));
    Testing.same(16, room.shown(0, 1, 0, 2));
  }

  private static void shownRegions() {
    Patternroom room = Samples.published();
    room.setValue(-1, Samples.SIZE, 90);
    room.addUse(0, 1, 0);
    room.addTheme();
    Testing.refuses(NoSuchElementException.class, () -> room.shown(0, 0, 1, 0));
    Testing.refuses(NoSuchElementException.class, () -> room.shown(0, 1, 0, 0));
    Testing.same(16, room.shown(0, 0, 0, 2));
    room.setValue(-1, Samples.SIZE, 16);
    Testing.same(16, room.shown(0, 1, 1, 2));
    Testing.same(1L, room.paintings());
  }

  private static void shownRefuses() {
    Patternroom room = Samples.published();
    room.addPage();
    Testing.refuses(IndexOutOfBoundsException.class, () -> room.shown(-1, 0, 0, 3));
    Testing.refuses(IndexOutOfBoundsException.class, () -> room.shown(2, 0, 0, 0));
    Testing.refuses(IllegalArgumentException.class, () -> room.shown(0, 0, 0, -1));
    Testing.refuses(IllegalArgumentException.class, () -> room.shown(0, 9, 9, 3));
    Testing.refuses(IllegalArgumentException.class, () -> room.shown(1, 0, 0, 3));
    Testing.refuses(NoSuchElementException.class, () -> room.shown(1, 0, 0, 0));
    Testing.refuses(NoSuchElementException.class, () -> room.shown(0, -1, 0, 0));
    Testing.refuses(NoSuchElementException.class, () -> room.shown(0, 1, 0, 0));
    Testing.refuses(NoSuchElementException.class, () -> room.shown(0, 0, -1, 0));
    Testing.refuses(NoSuchElementException.class, () -> room.shown(0, 0, 1, 0));
    room.publish(1);
    Testing.refuses(NoSuchElementException.class, () -> room.shown(1, 0, 0, 0));
    room.addTheme();
    room.addTheme();
    Testing.refuses(NoSuchElementException.class, () -> room.shown(0, 3, 0, 0));
    Testing.refuses(NoSuchElementException.class, () -> room.shown(0, Integer.MAX_VALUE, 0, 0));
    Testing.refuses(NoSuchElementException.class, () -> room.shown(0, 0, Integer.MAX_VALUE, 0));
  }

  private static void paintings() {
    Patternroom room = Samples.published();
    room.addPage();
    room.addUse(1, 1, 0);
    room.setValue(-1, Samples.PAPER, 10);
    Testing.same(1L, room.paintings());
    room.publish(1);
    Testing.same(1L, room.paintings());
    room.setValue(-1, Samples.PAPER, 12);
    Testing.same(3L, room.paintings());
    room.setValue(-1, Samples.TEXT, 80);
    room.addToken(0, 1);
    room.addComponent(0, 1, 2);
    room.addPage();
    room.snapshot(0, 0);
    Testing.same(3L, room.paintings());
  }

  private static void paintedAfterStale() {
    Patternroom room = Samples.published();
    room.setValue(-1, Samples.PAPER, 79);
    room.setValue(-1, Samples.PAPER, 20);
    Testing.same(0L, room.paintings());
    room.setValue(-1, Samples.PAPER, 79);
    Testing.same(1, room.setValue(-1, Samples.INK, 10));
    Testing.same(1L, room.paintings());
    Testing.same(79, room.shown(0, 0, 0, 1));
  }

  private static void snapshot() {
    Patternroom room = Samples.page();
    room.addTheme();
    for (int s = 0; s < 8; s++) {
      Testing.same(s, room.snapshot(s % 2, 0));
    }
    Testing.refuses(IllegalStateException.class, () -> room.snapshot(0, 0));
    room.setValue(1, Samples.INK, 1);
    for (int s = 0; s < 8; s++) {
      Testing.same(s % 2, room.differing(s));
    }
  }

  private static void snapshotRefuses() {
    Patternroom room = Samples.page();
    Testing.refuses(IndexOutOfBoundsException.class, () -> room.snapshot(-1, 0));
    Testing.refuses(IndexOutOfBoundsException.class, () -> room.snapshot(1, 0));
    Testing.refuses(IndexOutOfBoundsException.class, () -> room.snapshot(0, -1));
    Testing.refuses(IndexOutOfBoundsException.class, () -> room.snapshot(0, 1));
    for (int s = 0; s < 8; s++) {
      Testing.same(s, room.snapshot(0, 0));
    }
    Testing.refuses(IndexOutOfBoundsException.class, () -> room.snapshot(0, 1));
  }

  private static void differing() {
    Patternroom room = Samples.page();
    room.addComponent(Samples.PAPER, Samples.SIZE, Samples.SIZE);
    room.addUse(0, 2, 0);
    room.snapshot(0, 0);
    Testing.same(0, room.differing(0));
    room.setValue(-1, Samples.INK, 79);
    Testing.same(1, room.differing(0));
    room.setValue(-1, Samples.PAPER, 79);
    Testing.same(2, room.differing(0));
    room.setValue(-1, Samples.INK, 80);
    room.setValue(-1, Samples.PAPER, 20);
    Testing.same(0, room.differing(0));
    room.override(0, Samples.SIZE, 17);
    Testing.same(2, room.differing(0));
    room.snapshot(0, 0);
    Testing.same(0, room.differing(1));
  }

  private static void differingRegions() {
    Patternroom room = Samples.page();
    room.snapshot(0, 0);
    room.setSlot(1, 0, 0);
    room.addUse(0, 1, 0);
    Testing.same(2, room.differing(0));
    room.setValue(0, Samples.INK, 0);
    Testing.same(3, room.differing(0));
    room.snapshot(0, 0);
    room.setSlot(1, 0, -1);
    Testing.same(1, room.differing(1));
    room.addPage();
    room.snapshot(0, 1);
    Testing.same(0, room.differing(2));
  }

  private static void differingRefuses() {
    Patternroom room = Samples.page();
    Testing.refuses(NoSuchElementException.class, () -> room.differing(0));
    room.snapshot(0, 0);
    Testing.refuses(NoSuchElementException.class, () -> room.differing(-1));
    Testing.refuses(NoSuchElementException.class, () -> room.differing(1));
    Testing.refuses(NoSuchElementException.class, () -> room.differing(8));
  }
}
