/** The boundary cases of the promises 31 to 33, and of the number of calls. */
final class FigureEdgesTest {
  private FigureEdgesTest() {}

  static void run() {
    passShare();
    meanContrastRange();
    meanContrast();
    isSound();
    isNotSound();
    lastCall();
  }

  private static Patternroom pages(int count) {
    Patternroom room = Samples.components(1);
    for (int p = 0; p < count; p++) {
      room.addPage();
      room.addUse(p, 0, 0);
    }
    return room;
  }

  private static void passShare() {
    Refused.test("promise 31: without pages it is refused", Refused.ARITHMETIC, Patternroom::new,
        room -> room.passShare());
    Refused.test("promise 31: with all but pages it is refused", Refused.ARITHMETIC,
        () -> Samples.components(8), room -> room.passShare());
    Testing.test("promise 31: an empty page passes, the share is 1", () -> {
      Patternroom room = new Patternroom();
      room.addPage();
      Testing.same(1.0f, room.passShare());
    });
    for (int c = 1; c <= 4; c++) {
      for (int f = 0; f <= c; f++) {
        int count = c;
        int failing = f;
        Testing.test("promise 31: the share of " + (c - f) + " pages of " + c, () -> {
          Patternroom room = pages(count);
          for (int p = 0; p < failing; p++) {
            room.override(p, Samples.SIZE, 0);
          }
          Testing.same((float) (count - failing) / (float) count, room.passShare());
        });
      }
    }
    Testing.test("promise 31: published and stale pages count as others do", () -> {
      Patternroom room = Samples.rich();
      Testing.same(2.0f / 3.0f, room.passShare());
      room.publish(2);
      Testing.same(2.0f / 3.0f, room.passShare());
    });
  }

  private static void meanContrastRange() {
    Bounds.test("promise 32: the theme", 0, 1, Refused.INDEX,
        (room, n) -> room.meanContrast(n, 0));
    Bounds.test("promise 32: the page", 0, 2, Refused.INDEX, () -> {
      Patternroom room = Samples.rich();
      room.addUse(2, 0, 0);
      return room;
    }, (room, n) -> room.meanContrast(0, n));
    Bounds.test("promise 32: of a full library the theme", 0, 2, Refused.INDEX, Samples::full,
        (room, n) -> room.meanContrast(n, 3));
    Bounds.test("promise 32: of a full library the page", 0, 3, Refused.INDEX, Samples::full,
        (room, n) -> room.meanContrast(2, n));
    Refused.test("promise 32: there is no page without pages", Refused.INDEX, Samples::tokens,
        room -> room.meanContrast(0, 0));
    Refused.test("promise 32: a page without regions is refused", Refused.ARITHMETIC,
        room -> room.meanContrast(0, 2));
    Refused.test("promise 32: a page without regions is refused in the last theme",
        Refused.ARITHMETIC, room -> room.meanContrast(1, 2));
    Refused.test("promise 32: a wrong theme comes before a page without regions", Refused.INDEX,
        room -> room.meanContrast(2, 2));
    Refused.test("promise 32: a theme of -1 comes before a page without regions", Refused.INDEX,
        room -> room.meanContrast(-1, 2));
  }

  private static void meanContrast() {
    Testing.test("promise 32: the least mean contrast is 0", () -> {
      Patternroom room = Samples.full();
      room.setReference(-1, 9, 1);
      room.setVariant(7, 1, 10);
      room.setVariant(7, 2, 10);
      room.setValue(-1, 10, 10);
      Testing.same(0.0, room.meanContrast(0, 0));
    });
    Testing.test("promise 32: the greatest mean contrast is 99", () -> {
      Patternroom room = pages(1);
      room.override(0, Samples.INK, 99);
      room.override(0, Samples.PAPER, 0);
      Testing.same(99.0, room.meanContrast(0, 0));
      room.override(0, Samples.INK, 0);
      room.override(0, Samples.PAPER, 99);
      Testing.same(99.0, room.meanContrast(0, 0));
    });
    Testing.test("promise 32: the mean of one region is its contrast",
        () -> Testing.same(60.0, pages(1).meanContrast(0, 0)));
    Testing.test("promise 32: the mean of 24 regions", () -> {
      Patternroom room = Samples.full();
      Testing.same(80.0, room.meanContrast(0, 0));
      room.setVariant(7, 2, 0);
      room.override(0, 0, 91);
      Testing.same(1922.0 / 24.0, room.meanContrast(0, 0));
    });
    Testing.test("promise 32: differences to both sides do not take each other away", () -> {
      Patternroom room = Samples.components(1);
      room.addComponent(Samples.PAPER, Samples.INK, Samples.SIZE);
      room.addPage();
      room.addUse(0, 0, 0);
      room.addUse(0, 1, 0);
      Testing.same(60.0, room.meanContrast(0, 0));
    });
    Testing.test("promise 32: a mean that is no whole number", () -> {
      Patternroom room = Samples.components(1);
      room.addComponent(Samples.SIZE, Samples.PAPER, Samples.SIZE);
      room.addPage();
      room.addUse(0, 0, 0);
      room.addUse(0, 1, 0);
      room.addUse(0, 1, 0);
      Testing.same(68.0 / 3.0, room.meanContrast(0, 0));
    });
  }

  private static void isSound() {
    Testing.test("promise 33: a new object is sound",
        () -> Testing.same(true, new Patternroom().isSound()));
    Testing.test("promise 33: a library with a stale page is sound",
        () -> Testing.same(true, Samples.rich().isSound()));
    Testing.test("promise 33: a full library is sound",
        () -> Testing.same(true, Samples.full().isSound()));
    Testing.test("promise 33: a full library is sound after a refused move", () -> {
      Patternroom room = Samples.full();
      room.deprecate(9, 10);
      Testing.refuses(Refused.UNSUPPORTED, () -> room.move(9));
      Testing.same(true, room.isSound());
    });
  }

  private static void isNotSound() {
    Testing.test("promise 33: a wrong value kept in the last place is seen", () -> {
      Patternroom room = Samples.full();
      int right = room.valueIn(2, 3, 11);
      Inside.keptValues(room, 3)[2][11] = right + 1;
      Testing.same(false, room.isSound());
      Inside.keptValues(room, 3)[2][11] = right;
      Testing.same(true, room.isSound());
    });
    Testing.test("promise 33: a wrong kept value of a page not published is seen", () -> {
      Patternroom room = Samples.page();
      Inside.keptValues(room, 0)[0][0] = 1;
      Testing.same(false, room.isSound());
    });
    Testing.test("promise 33: a wrong value shown in the last place is seen", () -> {
      Patternroom room = Samples.full();
      int[] values = Inside.shownValues(room, 3, 2);
      Testing.same(20, values[71]);
      values[71] = 21;
      Testing.same(false, room.isSound());
      values[71] = 20;
      Testing.same(true, room.isSound());
    });
    Testing.test("promise 33: a region too few that is shown is seen", () -> {
      Patternroom room = Samples.full();
      Inside.put(Inside.shownView(room, 3, 2), "regionCount", 23);
      Testing.same(false, room.isSound());
    });
    Testing.test("promise 33: a theme too few that is shown is seen", () -> {
      Patternroom room = Samples.full();
      Inside.put(Inside.page(room, 3), "shownThemes", 2);
      Testing.same(false, room.isSound());
    });
    Testing.test("promise 33: what a stale page shows does not matter", () -> {
      Patternroom room = Samples.rich();
      Inside.shownValues(room, 1, 0)[0] = 1;
      Testing.same(true, room.isSound());
    });
  }

  private static void lastCall() {
    Testing.test("promises 1 to 33: the 512th call is answered as the first ones are", () -> {
      Patternroom room = Samples.full();
      for (int call = 93; call < 511; call++) {
        Testing.same(90, room.valueIn(call % 3, call % 4, 9));
      }
      Testing.same(true, room.isSound());
    });
  }
}
