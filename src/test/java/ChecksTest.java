import java.util.NoSuchElementException;

/** Promises 18 to 21. */
final class ChecksTest {
  private ChecksTest() {}

  static void run() {
    Testing.test("promise 18: setLimits tells the pages that pass", ChecksTest::setLimits);
    Testing.test("promise 18: setLimits can end staleness and so paint", ChecksTest::setLimitsPaints);
    Testing.test("promise 18: setLimits refuses", ChecksTest::setLimitsRefuses);
    Testing.test("promise 19: failures counts twice what fails twice", ChecksTest::failures);
    Testing.test("promise 19: failures refuses", ChecksTest::failuresRefuses);
    Testing.test("promise 20: failure tells the four ways", ChecksTest::failure);
    Testing.test("promise 20: failure at the limits at first", ChecksTest::firstLimits);
    Testing.test("promise 20: failure refuses", ChecksTest::failureRefuses);
    Testing.test("promise 21: passes asks all themes and regions", ChecksTest::passes);
    Testing.test("promise 21: passes refuses", ChecksTest::passesRefuses);
  }

  private static void setLimits() {
    Patternroom room = Samples.page();
    room.addPage();
    Testing.same(2, room.setLimits(60, 16, 16));
    Testing.same(1, room.setLimits(61, 16, 16));
    Testing.same(1, room.setLimits(60, 17, 17));
    Testing.same(1, room.setLimits(60, 0, 15));
    Testing.same(2, room.setLimits(0, 0, 99));
    Testing.same(1, room.setLimits(99, 99, 99));
    Testing.same(2, room.setLimits(0, 0, 16));
    Testing.same(0, new Patternroom().setLimits(0, 0, 0));
  }

  private static void setLimitsPaints() {
    Patternroom room = Samples.published();
    room.setValue(-1, Samples.SIZE, 80);
    Testing.same(true, room.isStale(0));
    Testing.same(16, room.shown(0, 0, 0, 2));
    Testing.same(1, room.setLimits(30, 8, 80));
    Testing.same(80, room.shown(0, 0, 0, 2));
    Testing.same(1L, room.paintings());
    Testing.same(0, room.setLimits(61, 8, 80));
    Testing.same(true, room.isStale(0));
    Testing.same(1, room.setLimits(60, 8, 80));
    Testing.same(1L, room.paintings());
  }

  private static void setLimitsRefuses() {
    Patternroom room = Samples.page();
    int[][] wrong = {
      {-1, 8, 72}, {100, 8, 72}, {30, -1, 72}, {30, 100, 100}, {30, 8, 100}, {30, 8, 7}, {0, 0, -1}
    };
    for (int[] w : wrong) {
      Testing.refuses(IllegalArgumentException.class, () -> room.setLimits(w[0], w[1], w[2]));
    }
    Testing.same(0, room.failures(0, 0));
    room.setValue(0, Samples.SIZE, 7);
    Testing.same(1, room.failures(0, 0));
  }

  private static void failures() {
    Patternroom room = Samples.page();
    room.addTheme();
    room.addUse(0, 1, 0);
    Testing.same(0, room.failures(0, 0));
    room.setValue(0, Samples.PAPER, 80);
    Testing.same(2, room.failures(0, 0));
    room.setValue(0, Samples.SIZE, 99);
    Testing.same(4, room.failures(0, 0));
    Testing.same(0, room.failures(1, 0));
    room.addPage();
    Testing.same(0, room.failures(0, 1));
    room.addUse(1, 0, 0);
    room.override(1, Samples.PAPER, 0);
    Testing.same(1, room.failures(0, 1));
  }

  private static void failuresRefuses() {
    Patternroom room = Samples.page();
    Testing.refuses(IndexOutOfBoundsException.class, () -> room.failures(-1, 0));
    Testing.refuses(IndexOutOfBoundsException.class, () -> room.failures(1, 0));
    Testing.refuses(IndexOutOfBoundsException.class, () -> room.failures(0, -1));
    Testing.refuses(IndexOutOfBoundsException.class, () -> room.failures(0, 1));
  }

  private static void failure() {
    Patternroom room = Samples.page();
    room.addTheme();
    Testing.same('-', room.failure(0, 0, 0));
    room.setValue(0, Samples.PAPER, 99);
    Testing.same('c', room.failure(0, 0, 0));
    room.setValue(0, Samples.SIZE, 7);
    Testing.same('b', room.failure(0, 0, 0));
    room.drop(0, Samples.PAPER);
    Testing.same('s', room.failure(0, 0, 0));
    Testing.same('-', room.failure(1, 0, 0));
    room.addUse(0, 1, 0);
    room.setVariant(0, 1, Samples.PAPER);
    room.addUse(0, 0, 1);
    Testing.same('s', room.failure(0, 0, 1));
    Testing.same('b', room.failure(0, 0, 2));
    Testing.same('c', room.failure(1, 0, 2));
  }

  private static void firstLimits() {
    Patternroom room = Samples.page();
    room.override(0, Samples.PAPER, 50);
    Testing.same('-', room.failure(0, 0, 0));
    room.override(0, Samples.PAPER, 51);
    Testing.same('c', room.failure(0, 0, 0));
    room.override(0, Samples.INK, 22);
    room.override(0, Samples.PAPER, 51);
    Testing.same('c', room.failure(0, 0, 0));
    room.override(0, Samples.PAPER, 52);
    Testing.same('-', room.failure(0, 0, 0));
    int[] sizes = {7, 8, 72, 73};
    char[] due = {'s', '-', '-', 's'};
    for (int k = 0; k < sizes.length; k++) {
      room.override(0, Samples.SIZE, sizes[k]);
      Testing.same(due[k], room.failure(0, 0, 0));
    }
  }

  private static void failureRefuses() {
    Patternroom room = Samples.page();
    Testing.refuses(IndexOutOfBoundsException.class, () -> room.failure(-1, 0, 0));
    Testing.refuses(IndexOutOfBoundsException.class, () -> room.failure(1, 0, 9));
    Testing.refuses(IndexOutOfBoundsException.class, () -> room.failure(0, -1, 0));
    Testing.refuses(IndexOutOfBoundsException.class, () -> room.failure(0, 1, -1));
    Testing.refuses(NoSuchElementException.class, () -> room.failure(0, 0, -1));
    Testing.refuses(NoSuchElementException.class, () -> room.failure(0, 0, 1));
    room.addPage();
    Testing.refuses(NoSuchElementException.class, () -> room.failure(0, 1, 0));
  }

  private static void passes() {
    Patternroom room = Samples.page();
    room.addPage();
    room.addTheme();
    Testing.same(true, room.passes(0));
    room.setValue(1, Samples.PAPER, 70);
    Testing.same(false, room.passes(0));
    Testing.same(true, room.passes(1));
    room.override(0, Samples.PAPER, 0);
    Testing.same(true, room.passes(0));
    room.addComponent(Samples.PAPER, Samples.PAPER, Samples.SIZE);
    room.addUse(0, 2, 0);
    Testing.same(false, room.passes(0));
  }

  private static void passesRefuses() {
    Patternroom room = Samples.page();
    Testing.refuses(IndexOutOfBoundsException.class, () -> room.passes(-1));
    Testing.refuses(IndexOutOfBoundsException.class, () -> room.passes(1));
  }
}
