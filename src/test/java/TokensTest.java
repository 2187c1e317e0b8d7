import java.util.NoSuchElementException;

/** Promises 1 to 9. */
final class TokensTest {
  private TokensTest() {}

  static void run() {
    Testing.test("promise 1: a new object holds the theme 0 and nothing else", TokensTest::newObject);
    Testing.test("promise 2: addToken numbers tokens from 0", TokensTest::addToken);
    Testing.test("promise 2: addToken refuses wrong numbers", TokensTest::addTokenRefuses);
    Testing.test("promise 2: addToken refuses the thirteenth", TokensTest::addTokenFull);
    Testing.test("promise 3: addTheme adds themes 1 and 2 alone", TokensTest::addTheme);
    Testing.test("promise 3: a new theme has no own definitions", TokensTest::themeIsEmpty);
    Testing.test("promise 3: addTheme paints published pages anew", TokensTest::themePaints);
    Testing.test("promise 4: setValue defines for all or for one theme", TokensTest::setValue);
    Testing.test("promise 4: setValue tells the pages painted anew", TokensTest::setValuePaints);
    Testing.test("promise 4: setValue refuses", TokensTest::setValueRefuses);
    Testing.test("promise 5: setReference leads to the value in this theme", TokensTest::setReference);
    Testing.test("promise 5: setReference tells the pages painted anew", TokensTest::setReferencePaints);
    Testing.test("promise 5: setReference refuses", TokensTest::setReferenceRefuses);
    Testing.test("promise 6: drop ends an own definition", TokensTest::drop);
    Testing.test("promise 6: drop tells the pages painted anew", TokensTest::dropPaints);
    Testing.test("promise 6: drop refuses", TokensTest::dropRefuses);
    Testing.test("promise 7: value looks at no page", TokensTest::value);
    Testing.test("promise 7: value refuses", TokensTest::valueRefuses);
    Testing.test("promises 8, 9: valueIn and valueAnew heed overrides", TokensTest::valueInPage);
    Testing.test("promises 8, 9: valueIn and valueAnew follow each change", TokensTest::valueFollows);
    Testing.test("promises 8, 9: valueIn and valueAnew refuse", TokensTest::valueInRefuses);
  }

  private static void newObject() {
    Patternroom room = new Patternroom();
    Testing.refuses(IndexOutOfBoundsException.class, () -> room.value(0, 0));
    Testing.refuses(IndexOutOfBoundsException.class, () -> room.regionsOf(0));
    Testing.refuses(IndexOutOfBoundsException.class, () -> room.regions(0));
    Testing.refuses(NoSuchElementException.class, () -> room.differing(0));
    Testing.same(0L, room.paintings());
    Testing.same(true, room.isSound());
    Testing.same(0, room.addToken(0, 7));
    Testing.same(7, room.value(0, 0));
    Testing.refuses(IndexOutOfBoundsException.class, () -> room.value(1, 0));
  }

  private static void addToken() {
    Patternroom room = new Patternroom();
    Testing.same(0, room.addToken(0, 0));
    Testing.same(1, room.addToken(2, 99));
    Testing.same(2, room.addToken(1, 50));
    Testing.same(0, room.value(0, 0));
    Testing.same(99, room.value(0, 1));
    Testing.same(50, room.value(0, 2));
    Testing.same(0, room.setReference(-1, 1, 2));
    Testing.refuses(IllegalArgumentException.class, () -> room.setReference(-1, 2, 1));
  }

  private static void addTokenRefuses() {
    Patternroom room = new Patternroom();
    Testing.refuses(IllegalArgumentException.class, () -> room.addToken(-1, 5));
    Testing.refuses(IllegalArgumentException.class, () -> room.addToken(3, 5));
    Testing.refuses(IllegalArgumentException.class, () -> room.addToken(0, -1));
    Testing.refuses(IllegalArgumentException.class, () -> room.addToken(0, 100));
    Testing.refuses(IllegalArgumentException.class, () -> room.addToken(Integer.MIN_VALUE, 5));
    Testing.refuses(IllegalArgumentException.class, () -> room.addToken(0, Integer.MAX_VALUE));
    Testing.same(0, room.addToken(0, 5));
  }

  private static void addTokenFull() {
    Patternroom room = new Patternroom();
    for (int t = 0; t < 12; t++) {
      Testing.same(t, room.addToken(t % 3, t));
    }
    Testing.refuses(IllegalStateException.class, () -> room.addToken(0, 1));
    Testing.refuses(IllegalArgumentException.class, () -> room.addToken(3, 1));
    Testing.same(11, room.value(0, 11));
  }

  private static void addTheme() {
    Patternroom room = new Patternroom();
    Testing.same(1, room.addTheme());
    Testing.same(2, room.addTheme());
    Testing.refuses(IllegalStateException.class, room::addTheme);
  }

  private static void themeIsEmpty() {
    Patternroom room = Samples.tokens();
    room.setValue(0, Samples.INK, 11);
    room.addTheme();
    Testing.same(11, room.value(0, Samples.TITLE));
    Testing.same(80, room.value(1, Samples.TITLE));
    Testing.refuses(NoSuchElementException.class, () -> room.drop(1, Samples.INK));
  }

  private static void themePaints() {
    Patternroom room = Samples.published();
    room.addPage();
    room.publish(1);
    room.addPage();
    Testing.same(1, room.addTheme());
    Testing.same(2L, room.paintings());
    Testing.same(80, room.shown(0, 1, 0, 0));
    room.setValue(1, Samples.SIZE, 90);
    room.setValue(-1, Samples.SIZE, 90);
    room.setValue(0, Samples.SIZE, 16);
    room.setValue(1, Samples.SIZE, 16);
    Testing.same(false, room.isStale(0));
    Testing.same(2L, room.paintings());
    Testing.same(2, room.addTheme());
    Testing.same(true, room.isStale(0));
    Testing.refuses(NoSuchElementException.class, () -> room.shown(0, 2, 0, 0));
    Testing.same(3L, room.paintings());
  }

  private static void setValue() {
    Patternroom room = Samples.tokens();
    room.addTheme();
    Testing.same(0, room.setValue(1, Samples.TEXT, 0));
    Testing.same(0, room.value(1, Samples.TITLE));
    Testing.same(80, room.value(0, Samples.TITLE));
    Testing.same(0, room.setValue(-1, Samples.TEXT, 99));
    Testing.same(0, room.value(1, Samples.TITLE));
    Testing.same(99, room.value(0, Samples.TITLE));
    Testing.same(80, room.value(0, Samples.INK));
  }

  private static void setValuePaints() {
    Patternroom room = Samples.published();
    room.addPage();
    room.addUse(1, 1, 0);
    room.publish(1);
    Testing.same(2, room.setValue(-1, Samples.INK, 70));
    Testing.same(0, room.setValue(-1, Samples.INK, 70));
    room.override(1, Samples.INK, 70);
    Testing.same(1, room.setValue(0, Samples.INK, 75));
    Testing.same(0, room.setValue(-1, Samples.INK, 60));
    Testing.same(0, room.setValue(0, Samples.SIZE, 73));
    Testing.same(3L, room.paintings());
  }

  private static void setValueRefuses() {
    Patternroom room = Samples.tokens();
    Testing.refuses(IndexOutOfBoundsException.class, () -> room.setValue(-2, 0, 5));
    Testing.refuses(IndexOutOfBoundsException.class, () -> room.setValue(1, 0, 5));
    Testing.refuses(IndexOutOfBoundsException.class, () -> room.setValue(0, -1, 5));
    Testing.refuses(IndexOutOfBoundsException.class, () -> room.setValue(0, 5, 5));
    Testing.refuses(IndexOutOfBoundsException.class, () -> room.setValue(0, 5, 100));
    Testing.refuses(IllegalArgumentException.class, () -> room.setValue(0, 0, 100));
    Testing.refuses(IllegalArgumentException.class, () -> room.setValue(-1, 0, -1));
    Testing.same(80, room.value(0, 0));
  }

  private static void setReference() {
    Patternroom room = Samples.tokens();
    room.addTheme();
    room.setValue(1, Samples.INK, 33);
    Testing.same(33, room.value(1, Samples.TITLE));
    Testing.same(0, room.setReference(1, Samples.TEXT, Samples.PAPER));
    Testing.same(20, room.value(1, Samples.TITLE));
    Testing.same(80, room.value(0, Samples.TITLE));
    Testing.same(0, room.setReference(-1, Samples.TITLE, Samples.SIZE));
    Testing.same(16, room.value(0, Samples.TITLE));
    Testing.same(16, room.value(1, Samples.TITLE));
  }

  private static void setReferencePaints() {
    Patternroom room = Samples.published();
    room.addToken(0, 90);
    Testing.same(1, room.setReference(-1, Samples.TEXT, 5));
    Testing.same(90, room.shown(0, 0, 0, 0));
    Testing.same(0, room.setReference(0, Samples.TEXT, 5));
    Testing.same(0, room.setReference(0, Samples.TEXT, Samples.PAPER));
    Testing.same(true, room.isStale(0));
    Testing.same(1L, room.paintings());
  }

  private static void setReferenceRefuses() {
    Patternroom room = Samples.tokens();
    Testing.refuses(IndexOutOfBoundsException.class, () -> room.setReference(-2, 3, 0));
    Testing.refuses(IndexOutOfBoundsException.class, () -> room.setReference(1, 3, 0));
    Testing.refuses(IndexOutOfBoundsException.class, () -> room.setReference(0, -1, 0));
    Testing.refuses(IndexOutOfBoundsException.class, () -> room.setReference(0, 5, 0));
    Testing.refuses(IndexOutOfBoundsException.class, () -> room.setReference(0, 3, -1));
    Testing.refuses(IndexOutOfBoundsException.class, () -> room.setReference(0, 3, 5));
    Testing.refuses(IllegalArgumentException.class, () -> room.setReference(0, 0, 1));
    Testing.refuses(IllegalArgumentException.class, () -> room.setReference(0, 3, 3));
    Testing.refuses(IllegalArgumentException.class, () -> room.setReference(-1, 3, 4));
    Testing.same(80, room.value(0, Samples.TEXT));
  }

  private static void drop() {
    Patternroom room = Samples.tokens();
    room.setValue(0, Samples.TEXT, 5);
    room.setReference(0, Samples.TITLE, Samples.PAPER);
    Testing.same(0, room.drop(0, Samples.TITLE));
    Testing.same(5, room.value(0, Samples.TITLE));
    Testing.same(0, room.drop(0, Samples.TEXT));
    Testing.same(80, room.value(0, Samples.TITLE));
    Testing.refuses(NoSuchElementException.class, () -> room.drop(0, Samples.TEXT));
  }

  private static void dropPaints() {
    Patternroom room = Samples.published();
    room.setValue(0, Samples.TEXT, 90);
    Testing.same(1, room.drop(0, Samples.TEXT));
    Testing.same(80, room.shown(0, 0, 0, 0));
    room.setValue(0, Samples.TEXT, 80);
    Testing.same(0, room.drop(0, Samples.TEXT));
    room.setValue(0, Samples.TEXT, 20);
    Testing.same(true, room.isStale(0));
    Testing.same(0, room.drop(0, Samples.TEXT));
    Testing.same(false, room.isStale(0));
    Testing.same(2L, room.paintings());
  }

  private static void dropRefuses() {
    Patternroom room = Samples.tokens();
    Testing.refuses(IndexOutOfBoundsException.class, () -> room.drop(-1, 0));
    Testing.refuses(IndexOutOfBoundsException.class, () -> room.drop(1, 0));
    Testing.refuses(IndexOutOfBoundsException.class, () -> room.drop(0, -1));
    Testing.refuses(IndexOutOfBoundsException.class, () -> room.drop(0, 5));
    Testing.refuses(NoSuchElementException.class, () -> room.drop(0, 0));
  }

  private static void value() {
    Patternroom room = Samples.page();
    room.override(0, Samples.INK, 1);
    Testing.same(80, room.value(0, Samples.INK));
    Testing.same(80, room.value(0, Samples.TEXT));
    Testing.same(80, room.value(0, Samples.TITLE));
    room.setValue(0, Samples.INK, 64);
    Testing.same(64, room.value(0, Samples.TITLE));
  }

  private static void valueRefuses() {
    Patternroom room = Samples.tokens();
    Testing.refuses(IndexOutOfBoundsException.class, () -> room.value(-1, 0));
    Testing.refuses(IndexOutOfBoundsException.class, () -> room.value(1, 0));
    Testing.refuses(IndexOutOfBoundsException.class, () -> room.value(0, -1));
    Testing.refuses(IndexOutOfBoundsException.class, () -> room.value(0, 5));
    Testing.refuses(IndexOutOfBoundsException.class, () -> room.value(0, Integer.MAX_VALUE));
  }

  private static void sameInPage(int due, Patternroom room, int theme, int page, int token) {
    Testing.same(due, room.valueIn(theme, page, token));
    Testing.same(due, room.valueAnew(theme, page, token));
  }

  private static void valueInPage() {
    Patternroom room = Samples.page();
    room.addPage();
    room.addTheme();
    room.setValue(1, Samples.TEXT, 66);
    room.override(0, Samples.INK, 1);
    sameInPage(1, room, 0, 0, Samples.INK);
    sameInPage(1, room, 0, 0, Samples.TITLE);
    sameInPage(66, room, 1, 0, Samples.TITLE);
    sameInPage(80, room, 0, 1, Samples.TITLE);
    room.override(0, Samples.TEXT, 0);
    sameInPage(0, room, 0, 0, Samples.TITLE);
    sameInPage(0, room, 1, 0, Samples.TEXT);
    sameInPage(1, room, 1, 0, Samples.INK);
  }

  private static void valueFollows() {
    Patternroom room = Samples.page();
    room.addTheme();
    sameInPage(80, room, 1, 0, Samples.TITLE);
    room.setValue(1, Samples.INK, 70);
    sameInPage(70, room, 1, 0, Samples.TITLE);
    room.setReference(-1, Samples.TITLE, Samples.PAPER);
    sameInPage(20, room, 1, 0, Samples.TITLE);
    room.setReference(1, Samples.TITLE, Samples.INK);
    sameInPage(70, room, 1, 0, Samples.TITLE);
    room.drop(1, Samples.INK);
    sameInPage(80, room, 1, 0, Samples.TITLE);
    room.override(0, Samples.INK, 71);
    sameInPage(71, room, 1, 0, Samples.TITLE);
    room.override(0, Samples.INK, -1);
    sameInPage(80, room, 1, 0, Samples.TITLE);
    room.deprecate(Samples.INK, Samples.SIZE);
    room.setLimits(0, 0, 99);
    room.move(Samples.INK);
    sameInPage(16, room, 1, 0, Samples.TITLE);
  }

  private static void valueInRefuses() {
    Patternroom room = Samples.page();
    int[][] wrong = {{-1, 0, 0}, {1, 0, 0}, {0, -1, 0}, {0, 1, 0}, {0, 0, -1}, {0, 0, 5}};
    for (int[] w : wrong) {
      Testing.refuses(IndexOutOfBoundsException.class, () -> room.valueIn(w[0], w[1], w[2]));
      Testing.refuses(IndexOutOfBoundsException.class, () -> room.valueAnew(w[0], w[1], w[2]));
    }
  }
}
