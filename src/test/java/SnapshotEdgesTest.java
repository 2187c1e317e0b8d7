/** The boundary cases of the promises 26 and 27. */
final class SnapshotEdgesTest {
  private SnapshotEdgesTest() {}

  static void run() {
    snapshotRange();
    snapshotRoom();
    snapshotKeeps();
    differingRange();
    differingParts();
    differingRegions();
  }

  /** Eight snapshots of two themes that differ, each of other values. */
  private static Patternroom eightSnapshots() {
    Patternroom room = Samples.page();
    room.addTheme();
    room.addUse(0, 1, 0);
    for (int s = 0; s < 8; s++) {
      room.setValue(s % 2, Samples.INK, 60 + s);
      room.snapshot(s % 2, 0);
    }
    return room;
  }

  private static void snapshotRange() {
    Bounds.test("promise 26: the theme", 0, 1, Refused.INDEX, (room, n) -> room.snapshot(n, 0));
    Bounds.test("promise 26: the page", 0, 2, Refused.INDEX, (room, n) -> room.snapshot(0, n));
    Refused.test("promise 26: there is no page without pages", Refused.INDEX, Samples::tokens,
        room -> room.snapshot(0, 0));
    Refused.test("promise 26: a wrong theme comes before no room", Refused.INDEX,
        SnapshotEdgesTest::eightSnapshots, room -> room.snapshot(2, 0));
    Refused.test("promise 26: a wrong page comes before no room", Refused.INDEX,
        SnapshotEdgesTest::eightSnapshots, room -> room.snapshot(0, 1));
    Refused.test("promise 26: of a full library the theme 3 comes before no room", Refused.INDEX,
        Samples::full, room -> room.snapshot(3, 0));
    Refused.test("promise 26: of a full library the page 4 comes before no room", Refused.INDEX,
        Samples::full, room -> room.snapshot(0, 4));
  }

  private static void snapshotRoom() {
    Testing.test("promise 26: the first snapshot has the number 0",
        () -> Testing.same(0, Samples.page().snapshot(0, 0)));
    Testing.test("promise 26: the eighth snapshot is taken, with the number 7", () -> {
      Patternroom room = Samples.rich();
      for (int s = 2; s < 8; s++) {
        Testing.same(s, room.snapshot(s % 2, s % 3));
      }
      Testing.same(0, room.differing(7));
    });
    Refused.test("promise 26: the ninth snapshot is refused", Refused.STATE,
        SnapshotEdgesTest::eightSnapshots, room -> room.snapshot(0, 0));
    Refused.test("promise 26: the ninth snapshot is refused in a full library", Refused.STATE,
        Samples::full, room -> room.snapshot(2, 3));
    Testing.test("promise 26: a refused snapshot takes no number", () -> {
      Patternroom room = Samples.rich();
      Testing.refuses(Refused.INDEX, () -> room.snapshot(2, 0));
      Testing.refuses(Refused.INDEX, () -> room.snapshot(0, 3));
      Testing.same(2, room.snapshot(0, 0));
    });
  }

  private static void snapshotKeeps() {
    Testing.test("promise 26: a snapshot keeps the present values, not those that are shown", () -> {
      Patternroom room = Samples.rich();
      Testing.same(20, room.shown(1, 0, 0, 2));
      Testing.same(2, room.snapshot(0, 1));
      Testing.same(0, room.differing(2));
      room.override(1, Samples.SIZE, 20);
      Testing.same(3, room.differing(2));
    });
    Testing.test("promise 26: a page that is not published can be taken", () -> {
      Patternroom room = Samples.page();
      room.snapshot(0, 0);
      room.setValue(-1, Samples.INK, 99);
      Testing.same(1, room.differing(0));
    });
    Testing.test("promise 26: an empty page can be taken", () -> {
      Patternroom room = Samples.rich();
      room.snapshot(1, 2);
      Testing.same(0, room.differing(2));
      room.addUse(2, 0, 0);
      Testing.same(1, room.differing(2));
    });
    Testing.test("promise 26: two snapshots of the same page are two", () -> {
      Patternroom room = Samples.page();
      room.snapshot(0, 0);
      room.setValue(-1, Samples.INK, 99);
      room.snapshot(0, 0);
      Testing.same(1, room.differing(0));
      Testing.same(0, room.differing(1));
      room.setValue(-1, Samples.INK, 80);
      Testing.same(0, room.differing(0));
      Testing.same(1, room.differing(1));
    });
  }

  private static void differingRange() {
    Bounds.test("promise 27: the snapshot", 0, 1, Refused.MISSING,
        (room, n) -> room.differing(n));
    Bounds.test("promise 27: of a full library the snapshot", 0, 7, Refused.MISSING,
        Samples::full, (room, n) -> room.differing(n));
    Refused.test("promise 27: there is no snapshot without snapshots", Refused.MISSING,
        Samples::page, room -> room.differing(0));
  }

  private static void differingParts() {
    Testing.test("promise 27: without a change 0 regions differ", () -> {
      Patternroom room = Samples.full();
      for (int s = 0; s < 8; s++) {
        Testing.same(0, room.differing(s));
      }
    });
    int[] tokens = {Samples.INK, Samples.PAPER, Samples.SIZE};
    String[] parts = {"front", "back", "size"};
    for (int k = 0; k < 3; k++) {
      int token = tokens[k];
      Testing.test("promise 27: another " + parts[k] + " alone makes a region differ", () -> {
        Patternroom room = Samples.page();
        room.snapshot(0, 0);
        room.override(0, token, 99);
        Testing.same(1, room.differing(0));
      });
    }
    Testing.test("promise 27: a region that differs in all parts counts once", () -> {
      Patternroom room = Samples.page();
      room.snapshot(0, 0);
      for (int token : tokens) {
        room.override(0, token, 99);
      }
      Testing.same(1, room.differing(0));
    });
    Testing.test("promise 27: of a full page 24 regions differ", () -> {
      Patternroom room = Samples.full();
      room.setValue(2, 11, 21);
      Testing.same(24, room.differing(2));
      Testing.same(0, room.differing(0));
      Testing.same(0, room.differing(1));
      Testing.same(24, room.differing(5));
    });
    Testing.test("promise 27: a value that comes back differs no more", () -> {
      Patternroom room = Samples.page();
      room.snapshot(0, 0);
      room.setValue(-1, Samples.INK, 81);
      room.setValue(-1, Samples.TEXT, 80);
      Testing.same(0, room.differing(0));
    });
  }

  private static void differingRegions() {
    Testing.test("promise 27: regions that only the page has count", () -> {
      Patternroom room = Samples.rich();
      room.snapshot(0, 2);
      room.addUse(2, 2, 0);
      room.addUse(2, 0, 0);
      Testing.same(4, room.differing(2));
    });
    Testing.test("promise 27: regions that only the snapshot has count", () -> {
      Patternroom room = Samples.full();
      for (int slot = 0; slot < 3; slot++) {
        room.setSlot(7, slot, -1);
      }
      Testing.same(6, room.regions(0));
      // All regions of the snapshot of variant 0 and of the others have the values 90, 10 and 20.
      Testing.same(18, room.differing(0));
    });
    Testing.test("promise 27: a page that has grown full differs in 24 regions", () -> {
      Patternroom room = Samples.components(2);
      for (int slot = 0; slot < 3; slot++) {
        room.setSlot(1, slot, 0);
      }
      room.addPage();
      room.snapshot(0, 0);
      for (int u = 1; u <= 6; u++) {
        room.addUse(0, 1, 0);
        Testing.same(4 * u, room.differing(0));
      }
    });
    Testing.test("promise 27: differing values and regions of one alone count together", () -> {
      Patternroom room = Samples.page();
      room.snapshot(0, 0);
      room.setValue(-1, Samples.SIZE, 17);
      room.addUse(0, 1, 0);
      Testing.same(2, room.differing(0));
    });
    Testing.test("promise 27: regions are compared by their numbers", () -> {
      Patternroom room = Samples.tokens();
      room.addComponent(Samples.INK, Samples.PAPER, Samples.SIZE);
      room.addComponent(Samples.PAPER, Samples.INK, Samples.SIZE);
      room.addComponent(Samples.SIZE, Samples.INK, Samples.SIZE);
      room.setSlot(2, 0, 0);
      room.setSlot(2, 1, 1);
      room.addPage();
      room.addUse(0, 2, 0);
      room.snapshot(0, 0);
      room.setSlot(2, 0, 1);
      room.setSlot(2, 1, 0);
      Testing.same(2, room.differing(0));
    });
    Testing.test("promise 27: the theme of the snapshot is compared, and no other", () -> {
      Patternroom room = Samples.rich();
      room.setValue(1, Samples.SIZE, 17);
      Testing.same(0, room.differing(0));
      room.setValue(0, Samples.SIZE, 17);
      Testing.same(3, room.differing(0));
    });
  }
}
