/** Promises 31 to 33. */
final class FiguresTest {
  private FiguresTest() {}

  static void run() {
    Testing.test("promise 31: passShare divides as floats", FiguresTest::passShare);
    Testing.test("promise 31: passShare refuses without pages", FiguresTest::passShareRefuses);
    Testing.test("promise 32: meanContrast divides as doubles", FiguresTest::meanContrast);
    Testing.test("promise 32: meanContrast refuses", FiguresTest::meanContrastRefuses);
    Testing.test("promise 33: isSound after each kind of change", FiguresTest::isSound);
    Testing.test("promise 33: isSound sees a wrong kept value", FiguresTest::seesWrongKeptValue);
    Testing.test("promise 33: isSound sees a wrong shown value", FiguresTest::seesWrongShownValue);
  }

  private static void passShare() {
    Patternroom room = Samples.page();
    Testing.same(1.0f, room.passShare());
    room.setValue(-1, Samples.SIZE, 1);
    Testing.same(0.0f, room.passShare());
    room.addPage();
    Testing.same(0.5f, room.passShare());
    room.addPage();
    Testing.same(2.0f / 3.0f, room.passShare());
    room.addPage();
    Testing.same(0.75f, room.passShare());
  }

  private static void passShareRefuses() {
    Testing.refuses(ArithmeticException.class, () -> new Patternroom().passShare());
    Testing.refuses(ArithmeticException.class, () -> Samples.components(1).passShare());
  }

  private static void meanContrast() {
    Patternroom room = Samples.page();
    room.addTheme();
    Testing.same(60.0, room.meanContrast(0, 0));
    room.addComponent(Samples.SIZE, Samples.PAPER, Samples.SIZE);
    room.addUse(0, 2, 0);
    Testing.same(32.0, room.meanContrast(0, 0));
    room.addUse(0, 2, 0);
    Testing.same(68.0 / 3.0, room.meanContrast(0, 0));
    room.setValue(1, Samples.PAPER, 90);
    Testing.same(158.0 / 3.0, room.meanContrast(1, 0));
    room.override(0, Samples.PAPER, 0);
    Testing.same(112.0 / 3.0, room.meanContrast(1, 0));
  }

  private static void meanContrastRefuses() {
    Patternroom room = Samples.page();
    room.addPage();
    Testing.refuses(IndexOutOfBoundsException.class, () -> room.meanContrast(-1, 0));
    Testing.refuses(IndexOutOfBoundsException.class, () -> room.meanContrast(1, 1));
    Testing.refuses(IndexOutOfBoundsException.class, () -> room.meanContrast(0, -1));
    Testing.refuses(IndexOutOfBoundsException.class, () -> room.meanContrast(0, 2));
    Testing.refuses(ArithmeticException.class, () -> room.meanContrast(0, 1));
  }

  private static void isSound() {
    Patternroom room = Samples.published();
    Testing.same(true, room.isSound());
    room.addTheme();
    Testing.same(true, room.isSound());
    room.setValue(1, Samples.INK, 70);
    Testing.same(true, room.isSound());
    room.override(0, Samples.TEXT, 75);
    Testing.same(true, room.isSound());
    room.setSlot(1, 0, 0);
    room.addUse(0, 1, 0);
    Testing.same(true, room.isSound());
    room.setValue(-1, Samples.SIZE, 1);
    Testing.same(true, room.isStale(0));
    Testing.same(true, room.isSound());
    room.addUse(0, 1, 0);
    Testing.same(true, room.isSound());
  }

  private static void seesWrongKeptValue() {
    Patternroom room = Samples.tokens();
    room.addTheme();
    room.addPage();
    Testing.same(true, room.isSound());
    int[][] kept = Inside.keptValues(room, 0);
    for (int theme = 0; theme < 2; theme++) {
      for (int token = 0; token < 5; token++) {
        int right = room.valueAnew(theme, 0, token);
        kept[theme][token] = right + 1;
        Testing.same(false, room.isSound());
        kept[theme][token] = right;
        Testing.same(true, room.isSound());
      }
    }
  }

  private static void seesWrongShownValue() {
    Patternroom room = Samples.published();
    int[] values = Inside.shownValues(room, 0, 0);
    Testing.same(80, values[0]);
    values[0] = 81;
    Testing.same(false, room.isSound());
    room.setLimits(99, 0, 99);
    Testing.same(true, room.isStale(0));
    Testing.same(true, room.isSound());
  }
}
