/** The boundary cases of the promises 14 to 17. */
final class PageEdgesTest {
  private PageEdgesTest() {}

  static void run() {
    addPage();
    newPage();
    addUseRange();
    addUseRoom();
    addUsePaints();
    overrideRange();
    overrideRoom();
    overrideEnds();
    overridePaints();
    regions();
  }

  /** The page 2 of the rich library with its three overrides. */
  private static Patternroom threeOverrides() {
    Patternroom room = Samples.rich();
    room.override(2, Samples.INK, 1);
    room.override(2, Samples.SIZE, 0);
    room.override(2, Samples.BRIGHT, 99);
    return room;
  }

  /** The page 2 of the rich library with its six uses. */
  private static Patternroom sixUses() {
    Patternroom room = Samples.rich();
    for (int u = 0; u < 6; u++) {
      room.addUse(2, u % 3, u % 3);
    }
    return room;
  }

  private static void addPage() {
    Testing.test("promise 14: the fourth page is taken", () -> {
      Patternroom room = new Patternroom();
      for (int p = 0; p < 4; p++) {
        Testing.same(p, room.addPage());
      }
      Testing.same(true, room.passes(3));
    });
    Refused.test("promise 14: the fifth page is refused", Refused.STATE, () -> {
      Patternroom room = Samples.rich();
      room.addPage();
      return room;
    }, Patternroom::addPage);
    Refused.test("promise 14: the fifth page is refused in a full library", Refused.STATE,
        Samples::full, Patternroom::addPage);
    Refused.test("promise 14: the fifth page is refused without tokens", Refused.STATE, () -> {
      Patternroom room = new Patternroom();
      for (int p = 0; p < 4; p++) {
        room.addPage();
      }
      return room;
    }, Patternroom::addPage);
  }

  private static void newPage() {
    Testing.test("promise 14: a new page has no uses", () -> {
      Patternroom room = Samples.rich();
      Testing.same(3, room.addPage());
      Testing.same(0, room.regions(3));
      Testing.same(1, room.addUse(3, 0, 0));
    });
    Testing.test("promise 14: a new page has no overrides", () -> {
      Patternroom room = Samples.rich();
      room.addPage();
      for (int t = 0; t < 6; t++) {
        int token = t;
        Testing.refuses(Refused.MISSING, () -> room.override(3, token, -1));
      }
      Testing.same(1, room.override(3, 0, 5));
    });
    Testing.test("promise 14: a new page is not published and not stale", () -> {
      Patternroom room = Samples.rich();
      room.addPage();
      Testing.same(false, room.isStale(3));
      Testing.refuses(Refused.MISSING, () -> room.shown(3, 0, 0, 0));
      Testing.same(3, room.publish(3));
    });
    Testing.test("promise 14: a new page without regions passes under the hardest limits", () -> {
      Patternroom room = Samples.rich();
      room.setLimits(99, 99, 99);
      room.addPage();
      Testing.same(true, room.passes(3));
    });
    Testing.test("promise 14: addPage paints no page anew", () -> {
      Patternroom room = Samples.published();
      room.addPage();
      Testing.same(0L, room.paintings());
    });
  }

  private static void addUseRange() {
    Bounds.test("promise 15: the page", 0, 2, Refused.INDEX, (room, n) -> room.addUse(n, 0, 0));
    Bounds.test("promise 15: the component", 0, 2, Refused.INDEX,
        (room, n) -> room.addUse(0, n, 0));
    Bounds.test("promise 15: the variant", 0, 2, Refused.ARGUMENT,
        (room, n) -> room.addUse(0, 0, n));
    Refused.test("promise 15: there is no page without pages", Refused.INDEX,
        () -> Samples.components(1), room -> room.addUse(0, 0, 0));
    Refused.test("promise 15: there is no component without components", Refused.INDEX, () -> {
      Patternroom room = Samples.tokens();
      room.addPage();
      return room;
    }, room -> room.addUse(0, 0, 0));
    Refused.test("promise 15: a wrong page comes before a wrong variant", Refused.INDEX,
        room -> room.addUse(3, 0, 3));
    Refused.test("promise 15: a wrong component comes before a wrong variant", Refused.INDEX,
        room -> room.addUse(0, 3, -1));
    Refused.test("promise 15: a wrong component comes before no room", Refused.INDEX,
        PageEdgesTest::sixUses, room -> room.addUse(2, -1, 0));
    Refused.test("promise 15: a wrong variant comes before no room", Refused.ARGUMENT,
        PageEdgesTest::sixUses, room -> room.addUse(2, 0, 3));
    Refused.test("promise 15: a variant below 0 comes before no room", Refused.ARGUMENT,
        PageEdgesTest::sixUses, room -> room.addUse(2, 0, -1));
    Refused.test("promise 15: of a full library the component 8 is refused", Refused.INDEX,
        Samples::full, room -> room.addUse(3, 8, 0));
    Refused.test("promise 15: of a full library the page 4 is refused", Refused.INDEX,
        Samples::full, room -> room.addUse(4, 7, 0));
  }

  private static void addUseRoom() {
    Testing.test("promise 15: the first use is taken, and answered by 1",
        () -> Testing.same(1, Samples.rich().addUse(2, 2, 2)));
    Testing.test("promise 15: the sixth use is taken, and answered by 6", () -> {
      Patternroom room = Samples.rich();
      for (int u = 1; u <= 6; u++) {
        Testing.same(u, room.addUse(2, 0, 0));
      }
      Testing.same(6, room.regions(2));
    });
    Refused.test("promise 15: the seventh use is refused", Refused.STATE, PageEdgesTest::sixUses,
        room -> room.addUse(2, 0, 0));
    Refused.test("promise 15: the seventh use is refused in a full library", Refused.STATE,
        Samples::full, room -> room.addUse(3, 7, 2));
    Testing.test("promise 15: a page of six uses leaves room for those of others", () -> {
      Patternroom room = sixUses();
      Testing.same(3, room.addUse(0, 0, 0));
      Testing.same(2, room.addUse(1, 0, 0));
    });
    Testing.test("promise 15: a refused use is not counted", () -> {
      Patternroom room = Samples.rich();
      Testing.refuses(Refused.ARGUMENT, () -> room.addUse(2, 0, 3));
      Testing.same(1, room.addUse(2, 0, 0));
    });
    Testing.test("promise 15: the same use can be added again", () -> {
      Patternroom room = Samples.rich();
      room.addUse(2, 1, 1);
      Testing.same(2, room.addUse(2, 1, 1));
      Testing.same(4, room.regions(2));
    });
  }

  private static void addUsePaints() {
    Testing.test("promise 15: a published page that passes shows the new use", () -> {
      Patternroom room = Samples.published();
      room.addUse(0, 1, 0);
      Testing.same(80, room.shown(0, 0, 1, 0));
      Testing.same(1L, room.paintings());
    });
    Testing.test("promise 15: a published empty page shows its first use", () -> {
      Patternroom room = Samples.components(1);
      room.addPage();
      room.publish(0);
      room.addUse(0, 0, 0);
      Testing.same(80, room.shown(0, 0, 0, 0));
      Testing.same(1L, room.paintings());
    });
    Testing.test("promise 15: a page that fails by the new use shows what it showed", () -> {
      Patternroom room = Samples.published();
      room.setVariant(1, 1, Samples.PAPER);
      room.addUse(0, 1, 1);
      Testing.same(true, room.isStale(0));
      Testing.refuses(Refused.MISSING, () -> room.shown(0, 0, 1, 0));
      Testing.same(0L, room.paintings());
    });
    Testing.test("promise 15: the use of a page is of this page alone", () -> {
      Patternroom room = Samples.rich();
      room.addUse(2, 2, 0);
      Testing.same(3, room.regions(0));
      Testing.same(3, room.regions(1));
      Testing.same(3, room.regions(2));
    });
  }

  private static void overrideRange() {
    Bounds.test("promise 16: the page", 0, 2, Refused.INDEX, (room, n) -> room.override(n, 0, 50));
    Bounds.test("promise 16: the token", 0, 5, Refused.INDEX,
        (room, n) -> room.override(2, n, 50));
    Bounds.test("promise 16: the value", -1, 99, Refused.ARGUMENT,
        PageEdgesTest::threeOverrides, (room, n) -> room.override(2, Samples.INK, n));
    Refused.test("promise 16: there is no page without pages", Refused.INDEX, Samples::tokens,
        room -> room.override(0, 0, 5));
    Refused.test("promise 16: there is no token without tokens", Refused.INDEX, () -> {
      Patternroom room = new Patternroom();
      room.addPage();
      return room;
    }, room -> room.override(0, 0, 5));
    Refused.test("promise 16: a wrong page comes before a wrong value", Refused.INDEX,
        room -> room.override(3, 0, 100));
    Refused.test("promise 16: a wrong token comes before a wrong value", Refused.INDEX,
        room -> room.override(2, 6, -2));
    Refused.test("promise 16: a wrong page comes before no override to end", Refused.INDEX,
        room -> room.override(-1, 0, -1));
    Refused.test("promise 16: a wrong token comes before no override to end", Refused.INDEX,
        room -> room.override(2, -1, -1));
    Refused.test("promise 16: a wrong token comes before no room", Refused.INDEX,
        PageEdgesTest::threeOverrides, room -> room.override(2, 6, 5));
    Refused.test("promise 16: a wrong value comes before no room", Refused.ARGUMENT,
        PageEdgesTest::threeOverrides, room -> room.override(2, Samples.PAPER, 100));
    Refused.test("promise 16: a value of -2 comes before no room", Refused.ARGUMENT,
        PageEdgesTest::threeOverrides, room -> room.override(2, Samples.PAPER, -2));
    Refused.test("promise 16: of a full library the page 4 is refused", Refused.INDEX,
        Samples::full, room -> room.override(4, 0, 5));
    Refused.test("promise 16: of a full library the token 12 is refused", Refused.INDEX,
        Samples::full, room -> room.override(3, 12, 5));
  }

  private static void overrideRoom() {
    Testing.test("promise 16: the third override is taken, and answered by 3", () -> {
      Patternroom room = Samples.rich();
      Testing.same(1, room.override(2, Samples.INK, 0));
      Testing.same(2, room.override(2, Samples.BRIGHT, 99));
      Testing.same(3, room.override(2, Samples.TITLE, 50));
    });
    Refused.test("promise 16: the fourth override is refused", Refused.STATE,
        PageEdgesTest::threeOverrides, room -> room.override(2, Samples.PAPER, 0));
    Refused.test("promise 16: the fourth override of the value that it has is refused",
        Refused.STATE, PageEdgesTest::threeOverrides, room -> room.override(2, Samples.PAPER, 20));
    Refused.test("promise 16: the fourth override is refused in a full library", Refused.STATE,
        Samples::full, room -> room.override(3, 11, 99));
    Testing.test("promise 16: with three overrides one can be changed", () -> {
      Patternroom room = threeOverrides();
      Testing.same(3, room.override(2, Samples.SIZE, 98));
      Testing.same(98, room.valueIn(0, 2, Samples.SIZE));
    });
    Testing.test("promise 16: after an end there is room again", () -> {
      Patternroom room = threeOverrides();
      Testing.same(2, room.override(2, Samples.SIZE, -1));
      Testing.same(3, room.override(2, Samples.PAPER, 7));
      Testing.refuses(Refused.STATE, () -> room.override(2, Samples.SIZE, 7));
    });
    Testing.test("promise 16: three overrides of a page leave room for those of others", () -> {
      Patternroom room = threeOverrides();
      Testing.same(2, room.override(0, Samples.INK, 60));
      Testing.same(2, room.override(1, Samples.INK, 60));
    });
  }

  private static void overrideEnds() {
    Testing.test("promise 16: the last override can be ended, and 0 is answered", () -> {
      Patternroom room = Samples.rich();
      Testing.same(0, room.override(0, Samples.PAPER, -1));
      Testing.same(20, room.valueIn(0, 0, Samples.PAPER));
    });
    Testing.test("promise 16: an override of the value 0 can be ended", () -> {
      Patternroom room = threeOverrides();
      Testing.same(2, room.override(2, Samples.SIZE, -1));
      Testing.same(16, room.valueIn(0, 2, Samples.SIZE));
    });
    Refused.test("promise 16: there is no override to end", Refused.MISSING,
        room -> room.override(2, Samples.INK, -1));
    Refused.test("promise 16: an override of another page is none to end", Refused.MISSING,
        room -> room.override(2, Samples.PAPER, -1));
    Refused.test("promise 16: an override of another token is none to end", Refused.MISSING,
        room -> room.override(0, Samples.INK, -1));
    Refused.test("promise 16: an own definition of a theme is none to end", Refused.MISSING,
        room -> room.override(1, Samples.INK, -1));
    Refused.test("promise 16: with three overrides there is no fourth to end", Refused.MISSING,
        PageEdgesTest::threeOverrides, room -> room.override(2, Samples.PAPER, -1));
    Refused.test("promise 16: an ended override is none to end", Refused.MISSING, () -> {
      Patternroom room = Samples.rich();
      room.override(0, Samples.PAPER, -1);
      return room;
    }, room -> room.override(0, Samples.PAPER, -1));
  }

  private static void overridePaints() {
    Testing.test("promise 16: an override paints its page anew in all themes", () -> {
      Patternroom room = Samples.published();
      room.addTheme();
      room.override(0, Samples.INK, 99);
      Testing.same(99, room.shown(0, 0, 0, 0));
      Testing.same(99, room.shown(0, 1, 0, 0));
      Testing.same(2L, room.paintings());
    });
    Testing.test("promise 16: an override by the value that it had paints no page", () -> {
      Patternroom room = Samples.published();
      room.override(0, Samples.INK, 80);
      room.override(0, Samples.INK, -1);
      Testing.same(0L, room.paintings());
    });
    Testing.test("promise 16: an override can make a page stale", () -> {
      Patternroom room = Samples.published();
      room.override(0, Samples.SIZE, 0);
      Testing.same(true, room.isStale(0));
      Testing.same(16, room.shown(0, 0, 0, 2));
    });
    Testing.test("promise 16: the end of an override can end staleness", () -> {
      Patternroom room = Samples.rich();
      Testing.same(true, room.isStale(1));
      room.override(1, Samples.SIZE, -1);
      Testing.same(false, room.isStale(1));
      Testing.same(16, room.shown(1, 0, 0, 2));
      Testing.same(1L, room.paintings());
    });
  }

  private static void regions() {
    Bounds.test("promise 17: the page", 0, 2, Refused.INDEX, (room, n) -> room.regions(n));
    Bounds.test("promise 17: of a full library the page", 0, 3, Refused.INDEX, Samples::full,
        (room, n) -> room.regions(n));
    Refused.test("promise 17: there is no page without pages", Refused.INDEX, Samples::tokens,
        room -> room.regions(0));
    Testing.test("promise 17: an empty page has 0 regions",
        () -> Testing.same(0, Samples.rich().regions(2)));
    Testing.test("promise 17: a full page has 24 regions",
        () -> Testing.same(24, Samples.full().regions(3)));
    Testing.test("promise 17: a slot that is made empty takes regions of each use away", () -> {
      Patternroom room = Samples.full();
      room.setSlot(7, 1, -1);
      Testing.same(18, room.regions(0));
      Testing.same(18, room.regions(3));
    });
  }
}
