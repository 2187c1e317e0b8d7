/** The boundary cases of the promises 22 to 25. */
final class PublishingEdgesTest {
  private PublishingEdgesTest() {}

  static void run() {
    publishRange();
    publish();
    isStale();
    shownRange();
    shownOfStale();
    shown();
    paintingsNever();
    paintings();
  }

  private static void publishRange() {
    Bounds.test("promise 22: the page", 0, 3, Refused.INDEX, () -> {
      Patternroom room = new Patternroom();
      for (int p = 0; p < 4; p++) {
        room.addPage();
      }
      return room;
    }, (room, n) -> room.publish(n));
    Refused.test("promise 22: the page 3 of 3 is refused", Refused.INDEX, room -> room.publish(3));
    Refused.test("promise 22: there is no page without pages", Refused.INDEX, Samples::tokens,
        room -> room.publish(0));
    Refused.test("promise 22: a published page is refused", Refused.STATE,
        room -> room.publish(0));
    Refused.test("promise 22: a published page is refused in a full library", Refused.STATE,
        Samples::full, room -> room.publish(3));
    Refused.test("promise 22: a stale page is refused as published, not as failing", Refused.STATE,
        room -> room.publish(1));
    Refused.test("promise 22: a page that does not pass is refused", Refused.UNSUPPORTED, () -> {
      Patternroom room = Samples.page();
      room.setValue(-1, Samples.SIZE, 7);
      return room;
    }, room -> room.publish(0));
    Refused.test("promise 22: a page that fails in the last theme alone is refused",
        Refused.UNSUPPORTED, () -> {
          Patternroom room = Samples.page();
          room.addTheme();
          room.addTheme();
          room.setValue(2, Samples.INK, 49);
          return room;
        }, room -> room.publish(0));
  }

  private static void publish() {
    Testing.test("promise 22: the first published page is answered by 1",
        () -> Testing.same(1, Samples.page().publish(0)));
    Testing.test("promise 22: the fourth published page is answered by 4", () -> {
      Patternroom room = new Patternroom();
      for (int p = 0; p < 4; p++) {
        room.addPage();
      }
      for (int p = 3; p >= 0; p--) {
        Testing.same(4 - p, room.publish(p));
      }
    });
    Testing.test("promise 22: stale pages are counted as published", () -> {
      Patternroom room = Samples.rich();
      Testing.same(true, room.isStale(1));
      Testing.same(3, room.publish(2));
    });
    Testing.test("promise 22: an empty page is published under the hardest limits", () -> {
      Patternroom room = Samples.rich();
      room.setLimits(99, 99, 99);
      Testing.same(3, room.publish(2));
    });
    Testing.test("promise 22: a page that passes just so is published", () -> {
      Patternroom room = Samples.page();
      room.setLimits(60, 16, 16);
      Testing.same(1, room.publish(0));
    });
    Testing.test("promise 22: publishing does not count as painting anew", () -> {
      Patternroom room = Samples.rich();
      room.addUse(2, 2, 0);
      room.publish(2);
      Testing.same(0L, room.paintings());
    });
    Testing.test("promise 22: a published page shows all themes, regions and parts at once", () -> {
      Patternroom room = Samples.rich();
      room.addUse(2, 1, 0);
      room.publish(2);
      Testing.same(80, room.shown(2, 0, 1, 0));
      Testing.same(90, room.shown(2, 1, 1, 0));
      Testing.same(20, room.shown(2, 1, 0, 1));
      Testing.same(16, room.shown(2, 0, 0, 2));
    });
    Testing.test("promise 22: a page that was refused can be published when it passes", () -> {
      Patternroom room = Samples.page();
      room.setLimits(61, 16, 16);
      Testing.refuses(Refused.UNSUPPORTED, () -> room.publish(0));
      room.setLimits(60, 16, 16);
      Testing.same(1, room.publish(0));
    });
  }

  private static void isStale() {
    Bounds.test("promise 23: the page", 0, 2, Refused.INDEX, (room, n) -> room.isStale(n));
    Bounds.test("promise 23: of a full library the page", 0, 3, Refused.INDEX, Samples::full,
        (room, n) -> room.isStale(n));
    Refused.test("promise 23: there is no page without pages", Refused.INDEX, Samples::tokens,
        room -> room.isStale(0));
    Testing.test("promise 23: a published page that passes is not stale",
        () -> Testing.same(false, Samples.rich().isStale(0)));
    Testing.test("promise 23: a published page that does not pass is stale",
        () -> Testing.same(true, Samples.rich().isStale(1)));
    Testing.test("promise 23: a page that is not published and passes is not stale",
        () -> Testing.same(false, Samples.rich().isStale(2)));
    Testing.test("promise 23: a page that is not published and does not pass is not stale", () -> {
      Patternroom room = Samples.page();
      room.setValue(-1, Samples.SIZE, 7);
      Testing.same(false, room.passes(0));
      Testing.same(false, room.isStale(0));
    });
    Testing.test("promise 23: an empty published page is never stale", () -> {
      Patternroom room = Samples.rich();
      room.publish(2);
      room.setLimits(99, 99, 99);
      Testing.same(false, room.isStale(2));
    });
    Testing.test("promise 23: a page at the limits is not stale, and beyond them it is", () -> {
      Patternroom room = Samples.published();
      room.setValue(-1, Samples.SIZE, 72);
      Testing.same(false, room.isStale(0));
      room.setValue(-1, Samples.SIZE, 73);
      Testing.same(true, room.isStale(0));
    });
  }

  private static void shownRange() {
    Bounds.test("promise 24: the page", 0, 1, Refused.INDEX, () -> {
      Patternroom room = Samples.published();
      room.addPage();
      room.addUse(1, 0, 0);
      room.publish(1);
      return room;
    }, (room, n) -> room.shown(n, 0, 0, 0));
    Bounds.test("promise 24: the part", 0, 2, Refused.ARGUMENT,
        (room, n) -> room.shown(0, 0, 0, n));
    Bounds.test("promise 24: the theme", 0, 1, Refused.MISSING,
        (room, n) -> room.shown(0, n, 0, 0));
    Bounds.test("promise 24: the region", 0, 2, Refused.MISSING,
        (room, n) -> room.shown(0, 1, n, 0));
    Bounds.test("promise 24: of a full library the page", 0, 3, Refused.INDEX, Samples::full,
        (room, n) -> room.shown(n, 2, 23, 2));
    Bounds.test("promise 24: of a full library the theme", 0, 2, Refused.MISSING, Samples::full,
        (room, n) -> room.shown(3, n, 23, 2));
    Bounds.test("promise 24: of a full library the region", 0, 23, Refused.MISSING, Samples::full,
        (room, n) -> room.shown(3, 2, n, 2));
    Refused.test("promise 24: a page that is not published shows nothing", Refused.MISSING,
        room -> room.shown(2, 0, 0, 0));
    Refused.test("promise 24: a page with regions that is not published shows nothing",
        Refused.MISSING, Samples::page, room -> room.shown(0, 0, 0, 0));
    Refused.test("promise 24: an empty published page shows no region", Refused.MISSING, () -> {
      Patternroom room = Samples.rich();
      room.publish(2);
      return room;
    }, room -> room.shown(2, 0, 0, 0));
    shownOrder();
  }

  private static void shownOrder() {
    Refused.test("promise 24: a wrong page comes before a wrong part", Refused.INDEX,
        room -> room.shown(3, 0, 0, 3));
    Refused.test("promise 24: a wrong page comes before a wrong theme", Refused.INDEX,
        room -> room.shown(-1, 2, 0, 0));
    Refused.test("promise 24: a wrong page comes before a wrong region", Refused.INDEX,
        room -> room.shown(3, 0, 3, 0));
    Refused.test("promise 24: a wrong part comes before a page not published", Refused.ARGUMENT,
        room -> room.shown(2, 0, 0, 3));
    Refused.test("promise 24: a wrong part comes before a wrong theme", Refused.ARGUMENT,
        room -> room.shown(0, 2, 0, -1));
    Refused.test("promise 24: a wrong part comes before a wrong region", Refused.ARGUMENT,
        room -> room.shown(0, 0, 3, 3));
  }

  /** A page that was published with one region and one theme, and is stale with two of both. */
  private static Patternroom staleOfOne() {
    Patternroom room = Samples.published();
    room.setValue(-1, Samples.SIZE, 7);
    room.addTheme();
    room.addUse(0, 1, 0);
    return room;
  }

  private static void shownOfStale() {
    Bounds.test("promise 24: of a stale page the theme that it shows", 0, 0, Refused.MISSING,
        PublishingEdgesTest::staleOfOne, (room, n) -> room.shown(0, n, 0, 0));
    Bounds.test("promise 24: of a stale page the region that it shows", 0, 0, Refused.MISSING,
        PublishingEdgesTest::staleOfOne, (room, n) -> room.shown(0, 0, n, 0));
    Testing.test("promise 24: a stale page still shows a region that it has no more", () -> {
      Patternroom room = Samples.components(2);
      room.setSlot(1, 0, 0);
      room.addPage();
      room.addUse(0, 1, 0);
      room.publish(0);
      room.setValue(-1, Samples.SIZE, 7);
      room.setSlot(1, 0, -1);
      Testing.same(1, room.regions(0));
      Testing.same(16, room.shown(0, 0, 1, 2));
      Testing.refuses(Refused.MISSING, () -> room.shown(0, 0, 2, 2));
    });
    Testing.test("promise 24: what a page showed longer ago is gone when it shows less", () -> {
      Patternroom room = Samples.components(2);
      room.setSlot(1, 0, 0);
      room.addPage();
      room.addUse(0, 1, 0);
      room.publish(0);
      room.setSlot(1, 0, -1);
      Testing.same(16, room.shown(0, 0, 0, 2));
      Testing.refuses(Refused.MISSING, () -> room.shown(0, 0, 1, 2));
    });
  }

  private static void shown() {
    Testing.test("promise 24: the parts 0, 1 and 2 are the front, the back and the size", () -> {
      Patternroom room = Samples.published();
      Testing.same(80, room.shown(0, 0, 0, 0));
      Testing.same(20, room.shown(0, 0, 0, 1));
      Testing.same(16, room.shown(0, 0, 0, 2));
    });
    Testing.test("promise 24: the least and the greatest values are shown", () -> {
      Patternroom room = Samples.published();
      room.setLimits(99, 0, 99);
      room.setValue(-1, Samples.PAPER, 99);
      room.setValue(-1, Samples.INK, 0);
      room.setValue(-1, Samples.SIZE, 99);
      Testing.same(0, room.shown(0, 0, 0, 0));
      Testing.same(99, room.shown(0, 0, 0, 1));
      Testing.same(99, room.shown(0, 0, 0, 2));
      room.setValue(-1, Samples.SIZE, 0);
      Testing.same(0, room.shown(0, 0, 0, 2));
    });
    Testing.test("promise 24: a stale page that fails in one theme keeps all themes", () -> {
      Patternroom room = Samples.full();
      room.setValue(0, 11, 0);
      room.setValue(2, 9, 80);
      Testing.same(20, room.shown(1, 0, 0, 2));
      Testing.same(90, room.shown(1, 2, 0, 0));
      room.setValue(0, 11, 8);
      Testing.same(8, room.shown(1, 0, 0, 2));
      Testing.same(80, room.shown(1, 2, 0, 0));
      Testing.same(20, room.shown(1, 2, 0, 2));
    });
  }

  private static void paintingsNever() {
    Testing.test("promise 25: there are none at first", () -> {
      Testing.same(0L, new Patternroom().paintings());
      Testing.same(0L, Samples.rich().paintings());
    });
    Testing.test("promise 25: pages that are not published are never painted", () -> {
      Patternroom room = Samples.page();
      room.setValue(-1, Samples.INK, 70);
      room.addTheme();
      room.addUse(0, 1, 0);
      Testing.same(0L, room.paintings());
    });
    Testing.test("promise 25: a stale page is not painted, whatever changes", () -> {
      Patternroom room = staleOfOne();
      room.setValue(-1, Samples.INK, 99);
      room.addUse(0, 0, 0);
      room.addTheme();
      Testing.same(0L, room.paintings());
    });
    Testing.test("promise 25: a refused call paints no page", () -> {
      Patternroom room = Samples.published();
      Testing.refuses(Refused.ARGUMENT, () -> room.setValue(-1, Samples.INK, 100));
      Testing.refuses(Refused.MISSING, () -> room.drop(0, Samples.INK));
      Testing.refuses(Refused.STATE, () -> room.publish(0));
      Testing.same(0L, room.paintings());
    });
    Testing.test("promise 25: questions paint no page", () -> {
      Patternroom room = Samples.published();
      room.passes(0);
      room.isStale(0);
      room.failures(0, 0);
      room.snapshot(0, 0);
      room.differing(0);
      room.isSound();
      Testing.same(0L, room.paintings());
    });
  }

  private static void paintings() {
    Testing.test("promise 25: a call that paints four pages counts four times", () -> {
      Patternroom room = Samples.full();
      room.setValue(-1, 11, 21);
      Testing.same(12L, room.paintings());
    });
    Testing.test("promise 25: one other value in one place of the last theme is enough", () -> {
      Patternroom room = Samples.full();
      room.setVariant(7, 1, -1);
      room.setValue(2, 6, 91);
      Testing.same(8L, room.paintings());
      room.setVariant(7, 1, 6);
      Testing.same(12L, room.paintings());
    });
    Testing.test("promise 25: another number of regions of the same values is enough", () -> {
      Patternroom room = Samples.published();
      room.addUse(0, 0, 0);
      Testing.same(1L, room.paintings());
    });
    Testing.test("promise 25: another number of themes of the same values is enough", () -> {
      Patternroom room = Samples.published();
      room.addTheme();
      Testing.same(1L, room.paintings());
    });
    Testing.test("promise 25: another number of themes is enough for an empty page", () -> {
      Patternroom room = new Patternroom();
      room.addPage();
      room.publish(0);
      room.addTheme();
      room.addTheme();
      Testing.same(2L, room.paintings());
    });
    Testing.test("promise 25: a page that was stale over many changes is painted once", () -> {
      Patternroom room = staleOfOne();
      room.addTheme();
      room.setValue(-1, Samples.INK, 99);
      room.setValue(-1, Samples.SIZE, 8);
      Testing.same(1L, room.paintings());
      Testing.same(99, room.shown(0, 2, 1, 0));
    });
    Testing.test("promise 25: a page painted forth and back counts twice", () -> {
      Patternroom room = Samples.published();
      room.setValue(-1, Samples.INK, 79);
      room.setValue(-1, Samples.INK, 80);
      Testing.same(2L, room.paintings());
    });
    Testing.test("promise 25: the 512th call still tells all paintings", () -> {
      Patternroom room = Samples.full();
      for (int call = 93; call < 511; call++) {
        Testing.same(4, room.setValue(-1, 9, 80 + call % 2));
      }
      Testing.same(8L + 4L * 418L, room.paintings());
    });
  }
}
