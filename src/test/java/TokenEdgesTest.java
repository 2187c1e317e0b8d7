/** The boundary cases of the promises 1 to 6. */
final class TokenEdgesTest {
  private TokenEdgesTest() {}

  static void run() {
    newObject();
    addTokenRange();
    addTokenRoom();
    addTheme();
    addThemePaints();
    setValueRange();
    setValueDefines();
    setValuePaints();
    setReferenceRange();
    setReferenceLayers();
    setReferenceDefines();
    dropRange();
    dropEnds();
  }

  /** Tokens 0 to 5 of the layers 2, 1, 0, 0, 1, 2 with the values 10 to 60. */
  private static Patternroom layered() {
    Patternroom room = new Patternroom();
    int[] layers = {2, 1, 0, 0, 1, 2};
    for (int t = 0; t < layers.length; t++) {
      room.addToken(layers[t], 10 * t + 10);
    }
    return room;
  }

  /** Own definitions for all of the 6 tokens in both themes. */
  private static Patternroom defined() {
    Patternroom room = Samples.rich();
    for (int t = 0; t < 6; t++) {
      room.setValue(0, t, 10 * t);
      room.setValue(1, t, 10 * t + 1);
    }
    return room;
  }

  /** Two pages of one component each, and an empty page, all of them published. */
  private static Patternroom threePublished() {
    Patternroom room = Samples.published();
    room.addPage();
    room.addUse(1, 1, 0);
    room.publish(1);
    room.addPage();
    room.publish(2);
    return room;
  }

  private static void newObject() {
    Refused.test("promise 1: a new object has no token", Refused.INDEX, Patternroom::new,
        room -> room.uses(0));
    Testing.test("promise 1: the first token has the number 0",
        () -> Testing.same(0, new Patternroom().addToken(1, 1)));
    Refused.test("promise 1: a new object has no component", Refused.INDEX, Patternroom::new,
        room -> room.regionsOf(0));
    Testing.test("promise 1: the first component has the number 0", () -> {
      Patternroom room = new Patternroom();
      room.addToken(0, 1);
      Testing.same(0, room.addComponent(0, 0, 0));
    });
    Refused.test("promise 1: a new object has no page", Refused.INDEX, Patternroom::new,
        room -> room.passes(0));
    Testing.test("promise 1: the first page has the number 0",
        () -> Testing.same(0, new Patternroom().addPage()));
    Testing.test("promise 1: a new object has the theme 0", () -> {
      Patternroom room = new Patternroom();
      room.addToken(0, 41);
      Testing.same(41, room.value(0, 0));
      Testing.same(0, room.setValue(0, 0, 42));
      Testing.same(42, room.value(0, 0));
    });
    Refused.test("promise 1: a new object has no theme 1", Refused.INDEX, Samples::tokens,
        room -> room.value(1, 0));
    Refused.test("promise 1: a new object has no snapshot", Refused.MISSING, Patternroom::new,
        room -> room.differing(0));
    Testing.test("promise 1: a new object has no paintings",
        () -> Testing.same(0L, new Patternroom().paintings()));
    Testing.test("promise 1: two objects share nothing", () -> {
      Patternroom one = Samples.rich();
      Patternroom other = new Patternroom();
      Testing.same(0, other.addToken(0, 33));
      Testing.same(0, other.addPage());
      Testing.same(80, one.value(0, 0));
      Testing.same(3, one.regions(0));
    });
  }

  private static void addTokenRange() {
    Bounds.test("promise 2: the layer", 0, 2, Refused.ARGUMENT, (room, n) -> room.addToken(n, 5));
    Bounds.test("promise 2: the value", 0, 99, Refused.ARGUMENT, (room, n) -> room.addToken(1, n));
    Testing.test("promise 2: a token of the value 0 has this value", () -> {
      Patternroom room = Samples.rich();
      Testing.same(6, room.addToken(0, 0));
      Testing.same(0, room.value(0, 6));
      Testing.same(0, room.valueIn(1, 2, 6));
    });
    Testing.test("promise 2: a token of the value 99 has this value", () -> {
      Patternroom room = Samples.rich();
      Testing.same(6, room.addToken(2, 99));
      Testing.same(99, room.value(1, 6));
      Testing.same(99, room.valueIn(0, 0, 6));
    });
    Testing.test("promise 2: a new token stands nowhere", () -> {
      Patternroom room = Samples.rich();
      Testing.same(0, room.uses(room.addToken(0, 5)));
    });
    Refused.test("promise 2: a new token is not deprecated", Refused.MISSING, () -> {
      Patternroom room = Samples.rich();
      room.addToken(0, 5);
      return room;
    }, room -> room.move(6));
    Testing.test("promise 2: addToken paints no page anew", () -> {
      Patternroom room = Samples.published();
      room.addToken(0, 5);
      Testing.same(0L, room.paintings());
    });
  }

  private static Patternroom twelveTokens() {
    Patternroom room = new Patternroom();
    for (int t = 0; t < 12; t++) {
      room.addToken(2, 8 * t);
    }
    return room;
  }

  private static void addTokenRoom() {
    Testing.test("promise 2: the twelfth token is taken", () -> {
      Patternroom room = new Patternroom();
      for (int t = 0; t < 12; t++) {
        Testing.same(t, room.addToken(0, 99 - t));
      }
      Testing.same(88, room.value(0, 11));
      Testing.same(99, room.value(0, 0));
    });
    Refused.test("promise 2: the thirteenth token is refused", Refused.STATE,
        TokenEdgesTest::twelveTokens, room -> room.addToken(0, 5));
    Refused.test("promise 2: the thirteenth token is refused in a full library", Refused.STATE,
        Samples::full, room -> room.addToken(2, 99));
    Refused.test("promise 2: a wrong layer comes before no room", Refused.ARGUMENT,
        TokenEdgesTest::twelveTokens, room -> room.addToken(3, 5));
    Refused.test("promise 2: a layer below 0 comes before no room", Refused.ARGUMENT,
        TokenEdgesTest::twelveTokens, room -> room.addToken(-1, 5));
    Refused.test("promise 2: a wrong value comes before no room", Refused.ARGUMENT,
        TokenEdgesTest::twelveTokens, room -> room.addToken(0, 100));
    Testing.test("promise 2: a refused token takes no number", () -> {
      Patternroom room = Samples.rich();
      Testing.refuses(Refused.ARGUMENT, () -> room.addToken(3, 5));
      Testing.refuses(Refused.ARGUMENT, () -> room.addToken(0, 100));
      Testing.same(6, room.addToken(0, 5));
    });
  }

  private static void addTheme() {
    Testing.test("promise 3: the first theme that is added has the number 1",
        () -> Testing.same(1, new Patternroom().addTheme()));
    Testing.test("promise 3: the third theme is taken", () -> {
      Patternroom room = Samples.rich();
      Testing.same(2, room.addTheme());
      Testing.same(80, room.value(2, Samples.INK));
    });
    Refused.test("promise 3: the fourth theme is refused", Refused.STATE, () -> {
      Patternroom room = Samples.rich();
      room.addTheme();
      return room;
    }, Patternroom::addTheme);
    Refused.test("promise 3: the fourth theme is refused in a full library", Refused.STATE,
        Samples::full, Patternroom::addTheme);
    Testing.test("promise 3: a new theme has no own definition of any token", () -> {
      Patternroom room = defined();
      room.addTheme();
      for (int t = 0; t < 6; t++) {
        int token = t;
        Testing.refuses(Refused.MISSING, () -> room.drop(2, token));
      }
      Testing.same(80, room.value(2, Samples.TITLE));
    });
    Testing.test("promise 3: themes can be added before there are tokens", () -> {
      Patternroom room = new Patternroom();
      room.addTheme();
      room.addTheme();
      room.addToken(0, 77);
      Testing.same(77, room.value(2, 0));
    });
    Testing.test("promise 3: overrides of a page hold in a new theme", () -> {
      Patternroom room = Samples.page();
      room.override(0, Samples.INK, 99);
      room.addTheme();
      Testing.same(99, room.valueIn(1, 0, Samples.TITLE));
      Testing.same(99, room.valueAnew(1, 0, Samples.TITLE));
    });
  }

  private static void addThemePaints() {
    Testing.test("promise 3: each published page that passes shows the new theme", () -> {
      Patternroom room = threePublished();
      room.addTheme();
      Testing.same(80, room.shown(0, 1, 0, 0));
      Testing.same(80, room.shown(1, 1, 0, 0));
      Testing.same(3L, room.paintings());
    });
    Testing.test("promise 3: a page that is not published is not painted", () -> {
      Patternroom room = Samples.page();
      room.addTheme();
      Testing.same(0L, room.paintings());
    });
    Testing.test("promise 3: a stale page does not show the new theme", () -> {
      Patternroom room = Samples.published();
      room.setValue(-1, Samples.SIZE, 7);
      room.addTheme();
      Testing.refuses(Refused.MISSING, () -> room.shown(0, 1, 0, 0));
      Testing.same(16, room.shown(0, 0, 0, 2));
      Testing.same(0L, room.paintings());
    });
    Testing.test("promise 3: a page that fails in the new theme alone grows stale", () -> {
      Patternroom room = Samples.page();
      room.setValue(-1, Samples.SIZE, 7);
      room.setValue(0, Samples.SIZE, 8);
      room.publish(0);
      room.addTheme();
      Testing.same(true, room.isStale(0));
      Testing.same(0, room.failures(0, 0));
      Testing.same(1, room.failures(1, 0));
    });
  }

  private static void setValueRange() {
    Bounds.test("promise 4: the theme", -1, 1, Refused.INDEX,
        (room, n) -> room.setValue(n, 0, 50));
    Bounds.test("promise 4: the token", 0, 5, Refused.INDEX,
        (room, n) -> room.setValue(-1, n, 50));
    Bounds.test("promise 4: the token of a theme", 0, 5, Refused.INDEX,
        (room, n) -> room.setValue(1, n, 50));
    Bounds.test("promise 4: the value", 0, 99, Refused.ARGUMENT,
        (room, n) -> room.setValue(-1, 0, n));
    Bounds.test("promise 4: the value in a theme", 0, 99, Refused.ARGUMENT,
        (room, n) -> room.setValue(1, 0, n));
    Bounds.test("promise 4: of a full library the theme", -1, 2, Refused.INDEX, Samples::full,
        (room, n) -> room.setValue(n, 9, 91));
    Bounds.test("promise 4: of a full library the token", 0, 11, Refused.INDEX, Samples::full,
        (room, n) -> room.setValue(2, n, 50));
    Refused.test("promise 4: there is no token without tokens", Refused.INDEX, Patternroom::new,
        room -> room.setValue(-1, 0, 5));
    Refused.test("promise 4: a wrong theme comes before a wrong value", Refused.INDEX,
        room -> room.setValue(2, 0, 100));
    Refused.test("promise 4: a theme of -2 comes before a wrong value", Refused.INDEX,
        room -> room.setValue(-2, 0, -1));
    Refused.test("promise 4: a wrong token comes before a wrong value", Refused.INDEX,
        room -> room.setValue(-1, 6, 100));
  }

  private static void setValueDefines() {
    Testing.test("promise 4: the least value, 0, is the value then", () -> {
      Patternroom room = Samples.tokens();
      room.setValue(-1, Samples.INK, 0);
      Testing.same(0, room.value(0, Samples.TITLE));
    });
    Testing.test("promise 4: the greatest value, 99, is the value then", () -> {
      Patternroom room = Samples.tokens();
      room.setValue(0, Samples.INK, 99);
      Testing.same(99, room.value(0, Samples.TITLE));
    });
    Testing.test("promise 4: -1 is for the token itself, not for a theme", () -> {
      Patternroom room = Samples.tokens();
      room.addTheme();
      room.setValue(-1, Samples.INK, 7);
      Testing.same(7, room.value(0, Samples.INK));
      Testing.same(7, room.value(1, Samples.INK));
      Testing.refuses(Refused.MISSING, () -> room.drop(0, Samples.INK));
      Testing.refuses(Refused.MISSING, () -> room.drop(1, Samples.INK));
    });
    Testing.test("promise 4: the own definition of a theme is of this theme alone", () -> {
      Patternroom room = Samples.tokens();
      room.addTheme();
      room.setValue(0, Samples.INK, 7);
      Testing.same(7, room.value(0, Samples.INK));
      Testing.same(80, room.value(1, Samples.INK));
    });
    Testing.test("promise 4: a value stands in place of a reference", () -> {
      Patternroom room = Samples.tokens();
      room.setValue(-1, Samples.TEXT, 0);
      Testing.same(0, room.value(0, Samples.TEXT));
      Testing.same(0, room.uses(Samples.INK));
      room.setReference(0, Samples.TITLE, Samples.INK);
      room.setValue(0, Samples.TITLE, 99);
      Testing.same(99, room.value(0, Samples.TITLE));
      Testing.same(0, room.uses(Samples.INK));
    });
    Testing.test("promise 4: a value stands in place of a value", () -> {
      Patternroom room = Samples.tokens();
      room.setValue(0, Samples.INK, 5);
      room.setValue(0, Samples.INK, 6);
      Testing.same(6, room.value(0, Samples.INK));
      room.drop(0, Samples.INK);
      Testing.same(80, room.value(0, Samples.INK));
    });
  }

  private static void setValuePaints() {
    Testing.test("promise 4: without published pages none is painted", () -> {
      Testing.same(0, Samples.tokens().setValue(-1, Samples.INK, 70));
      Testing.same(0, Samples.page().setValue(-1, Samples.INK, 70));
    });
    Testing.test("promise 4: all four pages are painted", () -> {
      Patternroom room = Samples.full();
      Testing.same(4, room.setValue(-1, 9, 80));
      Testing.same(12L, room.paintings());
    });
    Testing.test("promise 4: a page that changes in three themes is painted once", () -> {
      Patternroom room = Samples.published();
      room.addTheme();
      room.addTheme();
      Testing.same(1, room.setValue(-1, Samples.INK, 70));
      Testing.same(3L, room.paintings());
    });
    Testing.test("promise 4: the value that it had paints no page", () -> {
      Patternroom room = threePublished();
      Testing.same(0, room.setValue(-1, Samples.INK, 80));
      Testing.same(0, room.setValue(0, Samples.TITLE, 80));
      Testing.same(0L, room.paintings());
    });
    Testing.test("promise 4: a page that does not show the token is not painted", () -> {
      Patternroom room = threePublished();
      room.addToken(0, 5);
      Testing.same(0, room.setValue(-1, 5, 6));
    });
    Testing.test("promise 4: a page that overrides the token is not painted", () -> {
      Patternroom room = threePublished();
      room.override(1, Samples.INK, 80);
      Testing.same(1, room.setValue(-1, Samples.INK, 70));
      Testing.same(80, room.shown(1, 0, 0, 0));
    });
    Testing.test("promise 4: a page that grows stale is not painted", () -> {
      Patternroom room = threePublished();
      Testing.same(0, room.setValue(-1, Samples.SIZE, 73));
      Testing.same(16, room.shown(0, 0, 0, 2));
    });
    Testing.test("promise 4: a page that passes again as it was shown is not painted", () -> {
      Patternroom room = Samples.published();
      room.setValue(-1, Samples.SIZE, 73);
      Testing.same(0, room.setValue(-1, Samples.SIZE, 16));
      Testing.same(0L, room.paintings());
    });
    Testing.test("promise 4: a page that passes again with another value is painted", () -> {
      Patternroom room = Samples.published();
      room.setValue(-1, Samples.SIZE, 73);
      Testing.same(1, room.setValue(-1, Samples.SIZE, 72));
      Testing.same(72, room.shown(0, 0, 0, 2));
    });
  }

  private static void setReferenceRange() {
    Bounds.test("promise 5: the theme", -1, 1, Refused.INDEX,
        (room, n) -> room.setReference(n, Samples.TITLE, 0));
    Bounds.test("promise 5: the token", 0, 5, Refused.INDEX, TokenEdgesTest::layered,
        (room, n) -> room.setReference(-1, n, 2));
    Bounds.test("promise 5: the other token", 0, 5, Refused.INDEX,
        (room, n) -> room.setReference(-1, Samples.TITLE, n));
    Bounds.test("promise 5: of a full library the theme", -1, 2, Refused.INDEX, Samples::full,
        (room, n) -> room.setReference(n, 11, 2));
    Testing.test("promise 5: of a full library the token 11 is taken",
        () -> Testing.same(0, Samples.full().setReference(2, 11, 5)));
    Refused.test("promise 5: of a full library the token 12 is refused", Refused.INDEX,
        Samples::full, room -> room.setReference(2, 12, 5));
    Refused.test("promise 5: of a full library the other token 12 is refused", Refused.INDEX,
        Samples::full, room -> room.setReference(2, 11, 12));
    Refused.test("promise 5: a wrong theme comes before a wrong layer", Refused.INDEX,
        room -> room.setReference(2, Samples.INK, Samples.TITLE));
    Refused.test("promise 5: a theme of -2 comes before a wrong layer", Refused.INDEX,
        room -> room.setReference(-2, Samples.INK, Samples.INK));
    Refused.test("promise 5: no such token, the same for both, comes before a wrong layer",
        Refused.INDEX, room -> room.setReference(-1, 6, 6));
    Refused.test("promise 5: -1 is no token, for either", Refused.INDEX,
        room -> room.setReference(-1, -1, -1));
  }

  private static void setReferenceLayers() {
    for (int from = 0; from < 3; from++) {
      for (int to = 0; to < 3; to++) {
        layerPair(from, to);
      }
    }
    Refused.test("promise 5: a token does not refer to itself", Refused.ARGUMENT,
        room -> room.setReference(-1, Samples.TITLE, Samples.TITLE));
    Refused.test("promise 5: a token of a theme does not refer to itself", Refused.ARGUMENT,
        room -> room.setReference(1, Samples.TEXT, Samples.TEXT));
  }

  /** The token 3, 4 or 5 of the layer 0, 1 or 2 refers to the token 2, 1 or 0 of the same. */
  private static void layerPair(int from, int to) {
    String name = "promise 5: a reference from the layer " + from + " to the layer " + to;
    int token = 3 + from;
    int other = 2 - to;
    if (to < from) {
      Testing.test(name + " is taken", () -> {
        Patternroom room = layered();
        Testing.same(0, room.setReference(-1, token, other));
        Testing.same(10 * other + 10, room.value(0, token));
      });
    } else {
      Refused.test(name + " is refused", Refused.ARGUMENT, TokenEdgesTest::layered,
          room -> room.setReference(-1, token, other));
      Refused.test(name + " is refused in a theme", Refused.ARGUMENT, TokenEdgesTest::layered,
          room -> room.setReference(0, token, other));
    }
  }

  private static void setReferenceDefines() {
    Testing.test("promise 5: the longest way leads over all three layers", () -> {
      Patternroom room = layered();
      room.setReference(-1, 5, 4);
      room.setReference(-1, 4, 3);
      Testing.same(40, room.value(0, 5));
      room.setValue(-1, 3, 0);
      Testing.same(0, room.value(0, 5));
    });
    Testing.test("promise 5: each step of the way is taken in this theme", () -> {
      Patternroom room = layered();
      room.addTheme();
      room.setReference(-1, 5, 4);
      room.setReference(-1, 4, 3);
      room.setReference(1, 4, 2);
      room.setValue(1, 2, 99);
      Testing.same(40, room.value(0, 5));
      Testing.same(99, room.value(1, 5));
    });
    Testing.test("promise 5: a reference stands in place of another one", () -> {
      Patternroom room = layered();
      room.setReference(-1, 5, 2);
      room.setReference(-1, 5, 3);
      Testing.same(40, room.value(0, 5));
      Testing.same(0, room.uses(2));
      Testing.same(1, room.uses(3));
    });
    Testing.test("promise 5: all four pages are painted", () -> {
      Patternroom room = Samples.full();
      room.setValue(-1, 6, 80);
      Testing.same(4, room.setReference(-1, 9, 6));
    });
    Testing.test("promise 5: a reference to the value that it had paints no page", () -> {
      Patternroom room = Samples.full();
      Testing.same(0, room.setReference(-1, 9, 3));
      Testing.same(8L, room.paintings());
    });
    Testing.test("promise 5: a page that is stale or not published is not painted", () -> {
      Patternroom room = Samples.rich();
      room.addUse(2, 0, 0);
      Testing.same(1, room.setReference(1, Samples.TITLE, Samples.INK));
      Testing.same(70, room.shown(0, 1, 1, 0));
      Testing.same(90, room.shown(1, 1, 0, 0));
    });
  }

  private static void dropRange() {
    Bounds.test("promise 6: the theme", 0, 1, Refused.INDEX, TokenEdgesTest::defined,
        (room, n) -> room.drop(n, 0));
    Bounds.test("promise 6: the token", 0, 5, Refused.INDEX, TokenEdgesTest::defined,
        (room, n) -> room.drop(1, n));
    Refused.test("promise 6: -1 is no theme, though tokens have definitions", Refused.INDEX,
        Samples::tokens, room -> room.drop(-1, Samples.INK));
    Refused.test("promise 6: there is no own definition of theme 0 at first", Refused.MISSING,
        Samples::tokens, room -> room.drop(0, Samples.INK));
    Refused.test("promise 6: the own definition of another theme is none", Refused.MISSING,
        room -> room.drop(0, Samples.INK));
    Refused.test("promise 6: a reference of the token itself is none", Refused.MISSING,
        room -> room.drop(1, Samples.TEXT));
    Refused.test("promise 6: a dropped definition is none", Refused.MISSING, () -> {
      Patternroom room = Samples.rich();
      room.drop(1, Samples.INK);
      return room;
    }, room -> room.drop(1, Samples.INK));
    Refused.test("promise 6: of a full library the theme 3 is refused", Refused.INDEX,
        Samples::full, room -> room.drop(3, 11));
    Refused.test("promise 6: of a full library the token 12 is refused", Refused.INDEX,
        Samples::full, room -> room.drop(2, 12));
    Refused.test("promise 6: a full library without own definitions drops none", Refused.MISSING,
        Samples::full, room -> room.drop(2, 11));
  }

  private static void dropEnds() {
    Testing.test("promise 6: an own definition of the value 0 is dropped", () -> {
      Patternroom room = Samples.tokens();
      room.setValue(0, Samples.INK, 0);
      Testing.same(0, room.drop(0, Samples.INK));
      Testing.same(80, room.value(0, Samples.INK));
    });
    Testing.test("promise 6: an own reference is dropped and is no use any more", () -> {
      Patternroom room = Samples.rich();
      int before = room.uses(Samples.BRIGHT);
      room.drop(1, Samples.TITLE);
      Testing.same(before - 1, room.uses(Samples.BRIGHT));
      Testing.same(70, room.value(1, Samples.TITLE));
    });
    Testing.test("promise 6: the own definitions of other themes and tokens stay", () -> {
      Patternroom room = defined();
      room.drop(1, Samples.PAPER);
      Testing.same(20, room.value(1, Samples.PAPER));
      Testing.same(10, room.value(0, Samples.PAPER));
      Testing.same(1, room.value(1, Samples.INK));
      Testing.same(21, room.value(1, Samples.SIZE));
    });
    Testing.test("promise 6: a dropped definition can be given again", () -> {
      Patternroom room = Samples.rich();
      room.drop(1, Samples.INK);
      room.setValue(1, Samples.INK, 64);
      Testing.same(0, room.drop(1, Samples.INK));
    });
    Testing.test("promise 6: all four pages are painted", () -> {
      Patternroom room = Samples.full();
      Testing.same(4, room.setValue(2, 11, 21));
      Testing.same(4, room.drop(2, 11));
      Testing.same(20, room.shown(3, 2, 23, 2));
    });
    Testing.test("promise 6: a drop to the same value paints no page", () -> {
      Patternroom room = Samples.full();
      room.setValue(2, 11, 20);
      Testing.same(0, room.drop(2, 11));
      Testing.same(8L, room.paintings());
    });
  }
}
