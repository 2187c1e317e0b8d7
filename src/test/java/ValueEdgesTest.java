import java.util.function.Consumer;

/** The boundary cases of the promises 7 to 9. */
final class ValueEdgesTest {
  private ValueEdgesTest() {}

  static void run() {
    ranges();
    value();
    overrides();
    changes();
  }

  private static void ranges() {
    Bounds.test("promise 7: the theme", 0, 1, Refused.INDEX, (room, n) -> room.value(n, 0));
    Bounds.test("promise 7: the token", 0, 5, Refused.INDEX, (room, n) -> room.value(0, n));
    Bounds.test("promise 7: of a full library the theme", 0, 2, Refused.INDEX, Samples::full,
        (room, n) -> room.value(n, 11));
    Bounds.test("promise 7: of a full library the token", 0, 11, Refused.INDEX, Samples::full,
        (room, n) -> room.value(2, n));
    Bounds.test("promise 8: the theme", 0, 1, Refused.INDEX, (room, n) -> room.valueIn(n, 0, 0));
    Bounds.test("promise 8: the page", 0, 2, Refused.INDEX, (room, n) -> room.valueIn(0, n, 0));
    Bounds.test("promise 8: the token", 0, 5, Refused.INDEX, (room, n) -> room.valueIn(0, 0, n));
    Bounds.test("promise 9: the theme", 0, 1, Refused.INDEX, (room, n) -> room.valueAnew(n, 0, 0));
    Bounds.test("promise 9: the page", 0, 2, Refused.INDEX, (room, n) -> room.valueAnew(0, n, 0));
    Bounds.test("promise 9: the token", 0, 5, Refused.INDEX, (room, n) -> room.valueAnew(0, 0, n));
    fullRanges();
    Refused.test("promise 7: there is no token without tokens", Refused.INDEX, Patternroom::new,
        room -> room.value(0, 0));
    Refused.test("promise 8: there is no page without pages", Refused.INDEX, Samples::tokens,
        room -> room.valueIn(0, 0, 0));
    Refused.test("promise 9: there is no page without pages", Refused.INDEX, Samples::tokens,
        room -> room.valueAnew(0, 0, 0));
  }

  private static void fullRanges() {
    Bounds.test("promise 8: of a full library the theme", 0, 2, Refused.INDEX, Samples::full,
        (room, n) -> room.valueIn(n, 3, 11));
    Bounds.test("promise 8: of a full library the page", 0, 3, Refused.INDEX, Samples::full,
        (room, n) -> room.valueIn(2, n, 11));
    Bounds.test("promise 8: of a full library the token", 0, 11, Refused.INDEX, Samples::full,
        (room, n) -> room.valueIn(2, 3, n));
    Bounds.test("promise 9: of a full library the theme", 0, 2, Refused.INDEX, Samples::full,
        (room, n) -> room.valueAnew(n, 3, 11));
    Bounds.test("promise 9: of a full library the page", 0, 3, Refused.INDEX, Samples::full,
        (room, n) -> room.valueAnew(2, n, 11));
    Bounds.test("promise 9: of a full library the token", 0, 11, Refused.INDEX, Samples::full,
        (room, n) -> room.valueAnew(2, 3, n));
  }

  private static void value() {
    Testing.test("promise 7: the own definition of the theme comes before that of the token", () -> {
      Patternroom room = Samples.rich();
      Testing.same(80, room.value(0, Samples.TITLE));
      Testing.same(90, room.value(1, Samples.TITLE));
      Testing.same(70, room.value(1, Samples.TEXT));
    });
    Testing.test("promise 7: an own definition of the value 0 counts", () -> {
      Patternroom room = Samples.tokens();
      room.setValue(0, Samples.TITLE, 0);
      Testing.same(0, room.value(0, Samples.TITLE));
    });
    Testing.test("promise 7: overrides of pages do not count", () -> {
      Patternroom room = Samples.rich();
      Testing.same(20, room.value(0, Samples.PAPER));
      Testing.same(16, room.value(1, Samples.SIZE));
    });
  }

  private static void both(int due, Patternroom room, int theme, int page, int token) {
    Testing.same(due, room.valueIn(theme, page, token));
    Testing.same(due, room.valueAnew(theme, page, token));
    Testing.same(due, room.valueIn(theme, page, token));
  }

  private static void overrides() {
    Testing.test("promises 8, 9: the least override, 0, is the value", () -> {
      Patternroom room = Samples.rich();
      room.override(2, Samples.TITLE, 0);
      both(0, room, 0, 2, Samples.TITLE);
      both(0, room, 1, 2, Samples.TITLE);
    });
    Testing.test("promises 8, 9: the greatest override, 99, is the value", () -> {
      Patternroom room = Samples.rich();
      room.override(2, Samples.TITLE, 99);
      both(99, room, 0, 2, Samples.TITLE);
      both(99, room, 1, 2, Samples.TITLE);
    });
    Testing.test("promises 8, 9: an override counts where other tokens refer to it", () -> {
      Patternroom room = Samples.page();
      room.override(0, Samples.INK, 1);
      both(1, room, 0, 0, Samples.TEXT);
      both(1, room, 0, 0, Samples.TITLE);
      room.override(0, Samples.TEXT, 2);
      both(1, room, 0, 0, Samples.INK);
      both(2, room, 0, 0, Samples.TITLE);
    });
    Testing.test("promises 8, 9: an override comes before the own definition of a theme", () -> {
      Patternroom room = Samples.rich();
      room.override(2, Samples.INK, 3);
      both(3, room, 1, 2, Samples.INK);
      both(3, room, 1, 2, Samples.TEXT);
    });
    Testing.test("promises 8, 9: an override is of its own page alone", () -> {
      Patternroom room = Samples.rich();
      both(10, room, 0, 0, Samples.PAPER);
      both(20, room, 0, 1, Samples.PAPER);
      both(20, room, 0, 2, Samples.PAPER);
    });
    Testing.test("promises 8, 9: an override of a token that the way passes by has no effect", () -> {
      Patternroom room = Samples.rich();
      room.override(2, Samples.TEXT, 4);
      both(4, room, 0, 2, Samples.TITLE);
      both(90, room, 1, 2, Samples.TITLE);
    });
    Testing.test("promises 8, 9: a page without overrides has the values of the theme", () -> {
      Patternroom room = Samples.rich();
      for (int theme = 0; theme < 2; theme++) {
        for (int token = 0; token < 6; token++) {
          both(room.value(theme, token), room, theme, 2, token);
        }
      }
    });
  }

  private static void changes() {
    follows("setValue of the token", 33, room -> room.setValue(-1, Samples.INK, 33));
    follows("setValue of the theme", 34, room -> room.setValue(0, Samples.TEXT, 34));
    follows("setReference of the token", 20,
        room -> room.setReference(-1, Samples.TITLE, Samples.PAPER));
    follows("setReference of the theme", 16,
        room -> room.setReference(0, Samples.TEXT, Samples.SIZE));
    follows("drop", 80, room -> {
      room.setValue(0, Samples.TITLE, 5);
      both(5, room, 0, 2, Samples.TITLE);
      room.drop(0, Samples.TITLE);
    });
    follows("a new override", 35, room -> room.override(2, Samples.INK, 35));
    follows("a changed override", 36, room -> {
      room.override(2, Samples.INK, 35);
      both(35, room, 0, 2, Samples.TITLE);
      room.override(2, Samples.INK, 36);
    });
    follows("an ended override", 80, room -> {
      room.override(2, Samples.INK, 35);
      both(35, room, 0, 2, Samples.TITLE);
      room.override(2, Samples.INK, -1);
    });
    follows("a move", 90, room -> {
      room.deprecate(Samples.INK, Samples.BRIGHT);
      room.move(Samples.INK);
    });
    follows("a refused move", 80, room -> {
      room.deprecate(Samples.INK, Samples.PAPER);
      Testing.refuses(Refused.UNSUPPORTED, () -> room.move(Samples.INK));
    });
    follows("a refused setValue", 80,
        room -> Testing.refuses(Refused.ARGUMENT, () -> room.setValue(-1, Samples.INK, 100)));
    follows("a deprecation alone", 80, room -> room.deprecate(Samples.INK, Samples.BRIGHT));
  }

  /** The value of TITLE in the theme 0 and the empty page is kept, and right again afterwards. */
  private static void follows(String what, int due, Consumer<Patternroom> change) {
    Testing.test("promise 8: the kept value is right after " + what, () -> {
      Patternroom room = Samples.rich();
      Testing.same(80, room.valueIn(0, 2, Samples.TITLE));
      change.accept(room);
      Testing.same(due, room.valueIn(0, 2, Samples.TITLE));
    });
    Testing.test("promise 9: the value found anew is right after " + what, () -> {
      Patternroom room = Samples.rich();
      Testing.same(80, room.valueAnew(0, 2, Samples.TITLE));
      change.accept(room);
      Testing.same(due, room.valueAnew(0, 2, Samples.TITLE));
    });
  }
}
