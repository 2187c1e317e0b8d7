/** The boundary cases of the promises 18 to 21. */
final class CheckEdgesTest {
  private static final int FRONT = 0;
  private static final int BACK = 1;
  private static final int SIZE = 2;

  private CheckEdgesTest() {}

  static void run() {
    setLimitsRange();
    setLimitsAnswers();
    setLimitsPaints();
    failuresRange();
    failures();
    failureRange();
    contrast();
    size();
    letters();
    passes();
  }

  /** One region of these values, under the limits at first. */
  private static Patternroom region(int front, int back, int size) {
    Patternroom room = new Patternroom();
    room.addToken(0, front);
    room.addToken(0, back);
    room.addToken(0, size);
    room.addComponent(FRONT, BACK, SIZE);
    room.addPage();
    room.addUse(0, 0, 0);
    return room;
  }

  private static void setLimitsRange() {
    Bounds.test("promise 18: the contrast limit", 0, 99, Refused.ARGUMENT,
        (room, n) -> room.setLimits(n, 40, 60));
    Bounds.test("promise 18: the smallest size", 0, 99, Refused.ARGUMENT,
        (room, n) -> room.setLimits(50, n, 99));
    Bounds.test("promise 18: the greatest size, from the smallest, 40, on", 40, 99,
        Refused.ARGUMENT, (room, n) -> room.setLimits(50, 40, n));
    Bounds.test("promise 18: the greatest size, from the smallest, 0, on", 0, 99,
        Refused.ARGUMENT, (room, n) -> room.setLimits(50, 0, n));
    Bounds.test("promise 18: the greatest size, from the smallest, 99, on", 99, 99,
        Refused.ARGUMENT, (room, n) -> room.setLimits(50, 99, n));
    Refused.test("promise 18: -1 as both sizes is refused", Refused.ARGUMENT,
        room -> room.setLimits(50, -1, -1));
    Refused.test("promise 18: 100 as both sizes is refused", Refused.ARGUMENT,
        room -> room.setLimits(50, 100, 100));
    Refused.test("promise 18: a greatest size below the smallest is refused in a new object",
        Refused.ARGUMENT, Patternroom::new, room -> room.setLimits(0, 1, 0));
    Refused.test("promise 18: refused limits leave those at first", Refused.ARGUMENT,
        Samples::published, room -> room.setLimits(99, 99, 98));
  }

  private static void setLimitsAnswers() {
    Testing.test("promise 18: without pages 0 of them pass",
        () -> Testing.same(0, new Patternroom().setLimits(0, 0, 0)));
    Testing.test("promise 18: empty pages pass under the hardest limits", () -> {
      Patternroom room = new Patternroom();
      for (int p = 1; p <= 4; p++) {
        room.addPage();
        Testing.same(p, room.setLimits(99, 99, 99));
      }
    });
    Testing.test("promise 18: all four pages pass, or none does", () -> {
      Patternroom room = Samples.full();
      Testing.same(4, room.setLimits(80, 20, 20));
      Testing.same(0, room.setLimits(81, 20, 20));
      Testing.same(0, room.setLimits(80, 21, 99));
      Testing.same(0, room.setLimits(80, 0, 19));
      Testing.same(4, room.setLimits(0, 0, 99));
    });
    Testing.test("promise 18: pages that are not published are counted too",
        () -> Testing.same(3, Samples.rich().setLimits(0, 0, 99)));
    Testing.test("promise 18: the widest limits let every value pass", () -> {
      Testing.same(1, region(50, 50, 0).setLimits(0, 0, 99));
      Testing.same(1, region(0, 99, 99).setLimits(0, 0, 99));
    });
    Testing.test("promise 18: the hardest limits let 0 on 99 of the size 99 pass", () -> {
      Testing.same(1, region(0, 99, 99).setLimits(99, 99, 99));
      Testing.same(1, region(99, 0, 99).setLimits(99, 99, 99));
      Testing.same(0, region(0, 98, 99).setLimits(99, 99, 99));
      Testing.same(0, region(0, 99, 98).setLimits(99, 99, 99));
    });
    Testing.test("promise 18: the size 0 alone passes from 0 to 0", () -> {
      Testing.same(1, region(0, 99, 0).setLimits(30, 0, 0));
      Testing.same(0, region(0, 99, 1).setLimits(30, 0, 0));
    });
  }

  private static void setLimitsPaints() {
    Testing.test("promise 18: a page that passes again by other limits is painted anew", () -> {
      Patternroom room = Samples.rich();
      Testing.same(3, room.setLimits(25, 10, 80));
      Testing.same(80, room.shown(1, 0, 0, 2));
      Testing.same(1L, room.paintings());
    });
    Testing.test("promise 18: a page that does not pass by one more is not painted", () -> {
      Patternroom room = Samples.rich();
      Testing.same(2, room.setLimits(25, 10, 79));
      Testing.same(20, room.shown(1, 0, 0, 2));
      Testing.same(0L, room.paintings());
    });
    Testing.test("promise 18: limits under which pages still pass paint none", () -> {
      Patternroom room = Samples.full();
      room.setLimits(80, 20, 20);
      room.setLimits(0, 0, 99);
      Testing.same(8L, room.paintings());
    });
    Testing.test("promise 18: limits can make all four pages stale", () -> {
      Patternroom room = Samples.full();
      room.setLimits(81, 20, 20);
      for (int p = 0; p < 4; p++) {
        Testing.same(true, room.isStale(p));
        Testing.same(90, room.shown(p, 2, 23, 0));
      }
    });
  }

  private static void failuresRange() {
    Bounds.test("promise 19: the theme", 0, 1, Refused.INDEX, (room, n) -> room.failures(n, 0));
    Bounds.test("promise 19: the page", 0, 2, Refused.INDEX, (room, n) -> room.failures(0, n));
    Bounds.test("promise 19: of a full library the theme", 0, 2, Refused.INDEX, Samples::full,
        (room, n) -> room.failures(n, 3));
    Bounds.test("promise 19: of a full library the page", 0, 3, Refused.INDEX, Samples::full,
        (room, n) -> room.failures(2, n));
    Refused.test("promise 19: there is no page without pages", Refused.INDEX, Samples::tokens,
        room -> room.failures(0, 0));
  }

  private static void failures() {
    Testing.test("promise 19: an empty page has 0 failures under the hardest limits", () -> {
      Patternroom room = Samples.rich();
      room.setLimits(99, 99, 99);
      Testing.same(0, room.failures(0, 2));
      Testing.same(0, room.failures(1, 2));
    });
    Testing.test("promise 19: a page that passes has 0 failures",
        () -> Testing.same(0, region(50, 20, 8).failures(0, 0)));
    Testing.test("promise 19: a region that fails by contrast counts once",
        () -> Testing.same(1, region(50, 21, 8).failures(0, 0)));
    Testing.test("promise 19: a region that fails by size counts once",
        () -> Testing.same(1, region(50, 20, 7).failures(0, 0)));
    Testing.test("promise 19: a region that fails by both counts twice",
        () -> Testing.same(2, region(50, 21, 7).failures(0, 0)));
    Testing.test("promise 19: a full page has at most 48 failures", () -> {
      Patternroom room = Samples.full();
      room.setLimits(99, 99, 99);
      Testing.same(48, room.failures(0, 0));
      Testing.same(48, room.failures(2, 3));
    });
    Testing.test("promise 19: failures of another theme do not count", () -> {
      Patternroom room = Samples.full();
      room.setValue(2, 11, 0);
      Testing.same(0, room.failures(1, 3));
      Testing.same(24, room.failures(2, 3));
    });
  }

  private static void failureRange() {
    Bounds.test("promise 20: the theme", 0, 1, Refused.INDEX, (room, n) -> room.failure(n, 0, 0));
    Bounds.test("promise 20: the page", 0, 1, Refused.INDEX, () -> {
      Patternroom room = region(80, 20, 16);
      room.addPage();
      room.addUse(1, 0, 0);
      return room;
    }, (room, n) -> room.failure(0, n, 0));
    Bounds.test("promise 20: the region", 0, 2, Refused.MISSING,
        (room, n) -> room.failure(1, 0, n));
    Bounds.test("promise 20: of a full page the region", 0, 23, Refused.MISSING, Samples::full,
        (room, n) -> room.failure(2, 3, n));
    Refused.test("promise 20: an empty page has no region 0", Refused.MISSING,
        room -> room.failure(0, 2, 0));
    Refused.test("promise 20: a region that another page has is none", Refused.MISSING, () -> {
      Patternroom room = Samples.rich();
      room.addUse(2, 0, 0);
      return room;
    }, room -> room.failure(0, 2, 1));
    Refused.test("promise 20: a wrong theme comes before a wrong region", Refused.INDEX,
        room -> room.failure(2, 0, 3));
    Refused.test("promise 20: a wrong page comes before a wrong region", Refused.INDEX,
        room -> room.failure(0, 3, -1));
    Refused.test("promise 20: a theme of -1 comes before an empty page", Refused.INDEX,
        room -> room.failure(-1, 2, 0));
  }

  private static void letter(String name, char due, int front, int back, int size) {
    Testing.test("promise 20: " + name, () -> {
      Patternroom room = region(front, back, size);
      Testing.same(due, room.failure(0, 0, 0));
      Testing.same(due == '-', room.passes(0));
    });
  }

  private static void contrast() {
    letter("a difference of 29 is less than the limit at first, 30", 'c', 49, 20, 16);
    letter("a difference of 30 is not less than the limit at first", '-', 50, 20, 16);
    letter("a difference of 29 downwards is less than the limit at first", 'c', 20, 49, 16);
    letter("a difference of 30 downwards is not less than the limit at first", '-', 20, 50, 16);
    letter("a difference of 0 fails", 'c', 50, 50, 16);
    letter("a difference of 99 does not fail", '-', 99, 0, 16);
    letter("a difference of 99 downwards does not fail", '-', 0, 99, 16);
    Testing.test("promise 20: with the limit 0 a difference of 0 does not fail", () -> {
      Patternroom room = region(50, 50, 16);
      room.setLimits(0, 8, 72);
      Testing.same('-', room.failure(0, 0, 0));
      room.setLimits(1, 8, 72);
      Testing.same('c', room.failure(0, 0, 0));
    });
    Testing.test("promise 20: with the limit 99 a difference of 98 fails", () -> {
      Patternroom room = region(0, 98, 16);
      room.setLimits(99, 8, 72);
      Testing.same('c', room.failure(0, 0, 0));
      room.setLimits(98, 8, 72);
      Testing.same('-', room.failure(0, 0, 0));
    });
  }

  private static void size() {
    letter("a size of 7 is less than the smallest at first, 8", 's', 80, 20, 7);
    letter("a size of 8 is not less than the smallest at first", '-', 80, 20, 8);
    letter("a size of 72 is not greater than the greatest at first", '-', 80, 20, 72);
    letter("a size of 73 is greater than the greatest at first, 72", 's', 80, 20, 73);
    letter("a size of 0 fails", 's', 80, 20, 0);
    letter("a size of 99 fails", 's', 80, 20, 99);
    Testing.test("promise 20: with one size alone the next ones fail", () -> {
      Patternroom room = region(80, 20, 40);
      room.setLimits(30, 40, 40);
      Testing.same('-', room.failure(0, 0, 0));
      room.setLimits(30, 41, 41);
      Testing.same('s', room.failure(0, 0, 0));
      room.setLimits(30, 39, 39);
      Testing.same('s', room.failure(0, 0, 0));
    });
  }

  private static void letters() {
    letter("a region that fails by contrast and by a small size", 'b', 49, 20, 7);
    letter("a region that fails by contrast and by a great size", 'b', 20, 49, 73);
    Testing.test("promise 20: each region of a page fails by itself", () -> {
      Patternroom room = region(80, 20, 16);
      room.addComponent(FRONT, FRONT, SIZE);
      room.addComponent(FRONT, BACK, FRONT);
      room.addComponent(BACK, BACK, FRONT);
      for (int c = 1; c < 4; c++) {
        room.addUse(0, c, 0);
      }
      char[] due = {'-', 'c', 's', 'b'};
      for (int r = 0; r < 4; r++) {
        Testing.same(due[r], room.failure(0, 0, r));
      }
      Testing.same(4, room.failures(0, 0));
    });
    Testing.test("promise 20: the values of the page are checked, not those of the theme", () -> {
      Patternroom room = region(80, 20, 16);
      room.override(0, SIZE, 7);
      Testing.same('s', room.failure(0, 0, 0));
      room.override(0, FRONT, 20);
      Testing.same('b', room.failure(0, 0, 0));
    });
  }

  private static void passes() {
    Bounds.test("promise 21: the page", 0, 2, Refused.INDEX, (room, n) -> room.passes(n));
    Bounds.test("promise 21: of a full library the page", 0, 3, Refused.INDEX, Samples::full,
        (room, n) -> room.passes(n));
    Refused.test("promise 21: there is no page without pages", Refused.INDEX, Patternroom::new,
        room -> room.passes(0));
    Testing.test("promise 21: an empty page passes", () -> {
      Patternroom room = Samples.rich();
      room.setLimits(99, 99, 99);
      Testing.same(true, room.passes(2));
      Testing.same(false, room.passes(0));
    });
    Testing.test("promise 21: a page whose last region alone fails does not pass", () -> {
      Patternroom room = region(80, 20, 16);
      room.addComponent(FRONT, BACK, BACK);
      room.addUse(0, 1, 0);
      room.addUse(0, 0, 0);
      Testing.same(true, room.passes(0));
      room.addComponent(FRONT, FRONT, SIZE);
      room.addUse(0, 2, 0);
      Testing.same(false, room.passes(0));
    });
    for (int t = 0; t < 3; t++) {
      int theme = t;
      Testing.test("promise 21: a page that fails in the theme " + t + " alone does not pass", () -> {
        Patternroom room = region(80, 20, 16);
        room.addTheme();
        room.addTheme();
        room.setValue(theme, SIZE, 7);
        Testing.same(false, room.passes(0));
        room.setValue(theme, SIZE, 8);
        Testing.same(true, room.passes(0));
      });
    }
  }
}
