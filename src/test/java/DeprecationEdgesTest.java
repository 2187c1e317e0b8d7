import java.util.function.Consumer;
import java.util.function.Supplier;

/** The boundary cases of the promises 28 to 30. */
final class DeprecationEdgesTest {
  private static final int OLD = 0;
  private static final int NEW = 1;

  private DeprecationEdgesTest() {}

  static void run() {
    deprecateRange();
    deprecateLayers();
    deprecateOrder();
    deprecateCounts();
    usesRange();
    usesOfEachPlace();
    noUses();
    moveRange();
    moveOfEachPlace();
    moveCounts();
    moveRefused();
    moveNotRefused();
  }

  private static void deprecateRange() {
    Bounds.test("promise 28: the token", 0, 5, Refused.INDEX,
        (room, n) -> room.deprecate(n, Samples.PAPER));
    Bounds.test("promise 28: the successor", 0, 5, Refused.INDEX,
        (room, n) -> room.deprecate(Samples.TITLE, n));
    Testing.test("promise 28: of a full library the token 11 is taken",
        () -> Testing.same(1, Samples.full().deprecate(11, 8)));
    Refused.test("promise 28: of a full library the token 12 is refused", Refused.INDEX,
        Samples::full, room -> room.deprecate(12, 8));
    Refused.test("promise 28: of a full library the successor 12 is refused", Refused.INDEX,
        Samples::full, room -> room.deprecate(11, 12));
    Refused.test("promise 28: there is no token without tokens", Refused.INDEX, Patternroom::new,
        room -> room.deprecate(0, 0));
  }

  /** Two tokens of each layer: 0 and 1 of the layer 0, 2 and 3 of 1, 4 and 5 of 2. */
  private static Patternroom pairs() {
    Patternroom room = new Patternroom();
    for (int t = 0; t < 6; t++) {
      room.addToken(t / 2, 10 * t);
    }
    return room;
  }

  private static void deprecateLayers() {
    for (int from = 0; from < 3; from++) {
      for (int to = 0; to < 3; to++) {
        layerPair(from, to);
      }
    }
  }

  private static void layerPair(int from, int to) {
    String name = "promise 28: to a token of the layer " + from + " a successor of the layer " + to;
    int token = 2 * from;
    int successor = 2 * to + 1;
    if (to <= from) {
      Testing.test(name + " is taken", () -> Testing.same(1, pairs().deprecate(token, successor)));
    } else {
      Refused.test(name + " is refused", Refused.ARGUMENT, DeprecationEdgesTest::pairs,
          room -> room.deprecate(token, successor));
    }
  }

  private static void deprecateOrder() {
    Refused.test("promise 28: a token is not its own successor", Refused.ARGUMENT,
        room -> room.deprecate(Samples.PAPER, Samples.PAPER));
    Refused.test("promise 28: no such token, the same for both, comes before both the same",
        Refused.INDEX, room -> room.deprecate(6, 6));
    Refused.test("promise 28: -1 for both comes before both the same", Refused.INDEX,
        room -> room.deprecate(-1, -1));
    Refused.test("promise 28: a deprecated successor is refused", Refused.STATE,
        room -> room.deprecate(Samples.TITLE, Samples.TEXT));
    Refused.test("promise 28: both the same comes before a deprecated successor", Refused.ARGUMENT,
        room -> room.deprecate(Samples.TEXT, Samples.TEXT));
    Refused.test("promise 28: a higher layer comes before a deprecated successor", Refused.ARGUMENT,
        room -> room.deprecate(Samples.INK, Samples.TEXT));
    Refused.test("promise 28: a wrong token comes before a deprecated successor", Refused.INDEX,
        room -> room.deprecate(6, Samples.TEXT));
    Refused.test("promise 28: a successor does not get its own deprecated token", Refused.STATE,
        () -> {
          Patternroom room = pairs();
          room.deprecate(0, 1);
          return room;
        }, room -> room.deprecate(1, 0));
    Refused.test("promise 28: the same successor, deprecated since, is refused", Refused.STATE,
        () -> {
          Patternroom room = pairs();
          room.deprecate(2, 0);
          room.deprecate(0, 1);
          return room;
        }, room -> room.deprecate(2, 0));
  }

  private static Patternroom elevenDeprecated() {
    Patternroom room = new Patternroom();
    for (int t = 0; t < 12; t++) {
      room.addToken(1, t);
    }
    for (int t = 0; t < 11; t++) {
      room.deprecate(t, t + 1);
    }
    return room;
  }

  private static void deprecateCounts() {
    Testing.test("promise 28: the first deprecated token is answered by 1",
        () -> Testing.same(1, pairs().deprecate(5, 0)));
    Testing.test("promise 28: eleven of twelve tokens can be deprecated", () -> {
      Patternroom room = new Patternroom();
      for (int t = 0; t < 12; t++) {
        room.addToken(1, t);
      }
      for (int t = 0; t < 11; t++) {
        Testing.same(t + 1, room.deprecate(t, t + 1));
      }
    });
    for (int t = 0; t < 11; t++) {
      int successor = t;
      Refused.test("promise 28: the twelfth has no successor left, not " + t, Refused.STATE,
          DeprecationEdgesTest::elevenDeprecated, room -> room.deprecate(11, successor));
    }
    Testing.test("promise 28: another successor in place of the earlier one counts no more", () -> {
      Patternroom room = Samples.rich();
      Testing.same(1, room.deprecate(Samples.TEXT, Samples.BRIGHT));
      Testing.same(1, room.deprecate(Samples.TEXT, Samples.BRIGHT));
      room.move(Samples.TEXT);
      Testing.same(90, room.value(0, Samples.TITLE));
    });
    Testing.test("promise 28: a deprecated token keeps its value and its uses", () -> {
      Patternroom room = Samples.published();
      room.deprecate(Samples.INK, Samples.PAPER);
      Testing.same(80, room.value(0, Samples.INK));
      Testing.same(1, room.uses(Samples.INK));
      Testing.same(2, room.uses(Samples.PAPER));
      Testing.same(0L, room.paintings());
    });
    Testing.test("promise 28: a deprecated token can still be used", () -> {
      Patternroom room = Samples.rich();
      Testing.same(3, room.addComponent(Samples.TEXT, Samples.TEXT, Samples.TEXT));
      Testing.same(-1, room.setVariant(3, 1, Samples.TEXT));
      Testing.same(5, room.uses(Samples.TEXT));
    });
  }

  private static void usesRange() {
    Bounds.test("promise 29: the token", 0, 5, Refused.INDEX, (room, n) -> room.uses(n));
    Bounds.test("promise 29: of a full library the token", 0, 11, Refused.INDEX, Samples::full,
        (room, n) -> room.uses(n));
    Refused.test("promise 29: there is no token without tokens", Refused.INDEX, Patternroom::new,
        room -> room.uses(0));
  }

  /** OLD and NEW, used nowhere, four tokens more, the last of the layers 1 and 2, and 8 components. */
  private static Patternroom places() {
    Patternroom room = new Patternroom();
    int[] values = {80, 90, 20, 16, 50, 60};
    int[] layers = {0, 0, 0, 0, 1, 2};
    for (int t = 0; t < 6; t++) {
      room.addToken(layers[t], values[t]);
    }
    room.addTheme();
    room.addTheme();
    for (int c = 0; c < 8; c++) {
      room.addComponent(2, 3, 3);
    }
    return room;
  }

  private static Patternroom with(Consumer<Patternroom> change) {
    Patternroom room = places();
    change.accept(room);
    return room;
  }

  private static Patternroom component(int front, int back, int size) {
    Patternroom room = Samples.tokens();
    room.addComponent(front, back, size);
    return room;
  }

  private static void oneUse(String place, Supplier<Patternroom> recipe) {
    Testing.test("promise 29: one use as " + place,
        () -> Testing.same(1, recipe.get().uses(OLD)));
  }

  private static void usesOfEachPlace() {
    Testing.test("promise 29: one use as a front", () -> {
      Patternroom room = component(Samples.SIZE, Samples.PAPER, Samples.PAPER);
      Testing.same(1, room.uses(Samples.SIZE));
      Testing.same(2, room.uses(Samples.PAPER));
    });
    oneUse("an own front of the variant 1", () -> with(room -> room.setVariant(0, 1, OLD)));
    oneUse("an own front of the variant 2", () -> with(room -> room.setVariant(0, 2, OLD)));
    oneUse("an own front of the last component", () -> with(room -> room.setVariant(7, 2, OLD)));
    oneUse("a reference of a token", () -> with(room -> room.setReference(-1, 4, OLD)));
    oneUse("a reference of the theme 0", () -> with(room -> room.setReference(0, 4, OLD)));
    oneUse("a reference of the theme 1", () -> with(room -> room.setReference(1, 5, OLD)));
    oneUse("a reference of the theme 2", () -> with(room -> room.setReference(2, 5, OLD)));
    Testing.test("promise 29: three uses as the front, the back and the size of a component", () -> {
      Patternroom room = component(OLD, OLD, OLD);
      Testing.same(4, room.uses(OLD));
    });
    Testing.test("promise 29: a reference of a token counts where each theme has an own value", () -> {
      Patternroom room = places();
      room.setReference(-1, 4, OLD);
      for (int theme = 0; theme < 3; theme++) {
        room.setValue(theme, 4, 1);
      }
      Testing.same(1, room.uses(OLD));
    });
    Testing.test("promise 29: a token has at most 84 uses", () -> {
      Patternroom room = new Patternroom();
      room.addTheme();
      room.addTheme();
      room.addToken(0, 1);
      for (int t = 1; t < 12; t++) {
        room.addToken(1 + t % 2, 1);
        for (int theme = -1; theme < 3; theme++) {
          room.setReference(theme, t, 0);
        }
      }
      for (int c = 0; c < 8; c++) {
        room.addComponent(0, 0, 0);
        room.setVariant(c, 1, 0);
        room.setVariant(c, 2, 0);
      }
      Testing.same(84, room.uses(0));
    });
  }

  private static void noUses() {
    Testing.test("promise 29: a token that stands nowhere has 0 uses",
        () -> Testing.same(0, places().uses(OLD)));
    Testing.test("promise 29: an override is no use", () -> {
      Patternroom room = places();
      room.addPage();
      room.override(0, OLD, 5);
      Testing.same(0, room.uses(OLD));
    });
    Testing.test("promise 29: a value of a token or a theme is no use", () -> {
      Patternroom room = places();
      room.setValue(-1, OLD, 4);
      room.setValue(0, OLD, 0);
      room.setValue(1, 4, 1);
      Testing.same(0, room.uses(OLD));
      Testing.same(0, room.uses(NEW));
    });
    Testing.test("promise 29: a successor is no use", () -> {
      Patternroom room = places();
      room.deprecate(NEW, OLD);
      Testing.same(0, room.uses(OLD));
    });
    Testing.test("promise 29: the use of a component by a page or a slot is no further use", () -> {
      Patternroom room = places();
      room.setVariant(0, 1, OLD);
      room.setSlot(1, 0, 0);
      room.addPage();
      room.addUse(0, 0, 1);
      room.addUse(0, 1, 1);
      Testing.same(1, room.uses(OLD));
    });
    Testing.test("promise 29: a reference by way of another token is no use", () -> {
      Patternroom room = places();
      room.setReference(-1, 4, OLD);
      room.setReference(-1, 5, 4);
      Testing.same(1, room.uses(OLD));
      Testing.same(1, room.uses(4));
    });
    Testing.test("promise 29: a reference that is dropped or replaced is no use", () -> {
      Patternroom room = places();
      room.setReference(2, 4, OLD);
      room.setReference(-1, 4, OLD);
      room.drop(2, 4);
      room.setValue(-1, 4, 50);
      Testing.same(0, room.uses(OLD));
    });
  }

  private static void moveRange() {
    Bounds.test("promise 30: the token", 0, 5, Refused.INDEX, () -> {
      Patternroom room = Samples.components(1);
      room.addToken(0, 90);
      room.deprecate(0, 1);
      room.deprecate(5, 1);
      return room;
    }, (room, n) -> room.move(n));
    Refused.test("promise 30: of a full library the token 12 is refused", Refused.INDEX,
        Samples::full, room -> room.move(12));
    Refused.test("promise 30: of a full library the token 11 is not deprecated", Refused.MISSING,
        Samples::full, room -> room.move(11));
    Refused.test("promise 30: a token that is not deprecated is refused", Refused.MISSING,
        room -> room.move(Samples.TITLE));
    Refused.test("promise 30: a successor is refused if it is not deprecated", Refused.MISSING,
        room -> room.move(Samples.INK));
    Refused.test("promise 30: there is no token without tokens", Refused.INDEX, Patternroom::new,
        room -> room.move(0));
  }

  private static void movesOne(String place, Consumer<Patternroom> change) {
    Testing.test("promise 30: the use as " + place + " is moved", () -> {
      Patternroom room = places();
      change.accept(room);
      room.deprecate(OLD, NEW);
      Testing.same(1, room.move(OLD));
      Testing.same(0, room.uses(OLD));
      Testing.same(1, room.uses(NEW));
    });
  }

  private static void moveOfEachPlace() {
    movesOne("an own front of the variant 1", room -> room.setVariant(0, 1, OLD));
    movesOne("an own front of the variant 2 of the last component",
        room -> room.setVariant(7, 2, OLD));
    movesOne("a reference of a token", room -> room.setReference(-1, 4, OLD));
    movesOne("a reference of the theme 0", room -> room.setReference(0, 5, OLD));
    movesOne("a reference of the theme 2", room -> room.setReference(2, 4, OLD));
    for (int p = 0; p < 3; p++) {
      int part = p;
      Testing.test("promise 30: the use as the part " + p + " of a component is moved", () -> {
        Patternroom room = Samples.tokens();
        int[] tokens = {Samples.SIZE, Samples.SIZE, Samples.SIZE};
        tokens[part] = Samples.PAPER;
        room.addComponent(tokens[0], tokens[1], tokens[2]);
        room.deprecate(Samples.PAPER, Samples.INK);
        Testing.same(1, room.move(Samples.PAPER));
        Testing.same(0, room.uses(Samples.PAPER));
        room.setLimits(0, 0, 99);
        room.addPage();
        room.addUse(0, 0, 0);
        room.publish(0);
        for (int k = 0; k < 3; k++) {
          Testing.same(k == part ? 80 : 16, room.shown(0, 0, 0, k));
        }
      });
    }
    Testing.test("promise 30: an override of the token stays", () -> {
      Patternroom room = places();
      room.addPage();
      room.override(0, OLD, 5);
      room.deprecate(OLD, NEW);
      Testing.same(0, room.move(OLD));
      Testing.same(5, room.valueIn(0, 0, OLD));
      Testing.same(90, room.valueIn(0, 0, NEW));
    });
    Testing.test("promise 30: the successors of other tokens stay", () -> {
      Patternroom room = places();
      room.deprecate(3, OLD);
      room.deprecate(OLD, NEW);
      room.move(OLD);
      Testing.same(16, room.move(3));
      Testing.same(16, room.uses(OLD));
    });
  }

  private static void moveCounts() {
    Testing.test("promise 30: a token that stands nowhere moves 0 uses", () -> {
      Patternroom room = places();
      room.deprecate(OLD, NEW);
      Testing.same(0, room.move(OLD));
    });
    Testing.test("promise 30: a token that was moved is still deprecated, and moves 0 uses", () -> {
      Patternroom room = Samples.rich();
      Testing.same(1, room.move(Samples.TEXT));
      Testing.same(0, room.move(Samples.TEXT));
      Testing.same(1, room.deprecate(Samples.TEXT, Samples.PAPER));
    });
    Testing.test("promise 30: 80 uses are moved, the greatest number", () -> {
      Patternroom room = new Patternroom();
      room.addTheme();
      room.addTheme();
      room.addToken(0, 1);
      room.addToken(0, 2);
      for (int t = 2; t < 12; t++) {
        room.addToken(1 + t % 2, 1);
        for (int theme = -1; theme < 3; theme++) {
          room.setReference(theme, t, OLD);
        }
      }
      for (int c = 0; c < 8; c++) {
        room.addComponent(OLD, OLD, OLD);
        room.setVariant(c, 1, OLD);
        room.setVariant(c, 2, OLD);
      }
      room.deprecate(OLD, NEW);
      Testing.same(80, room.move(OLD));
      Testing.same(0, room.uses(OLD));
      Testing.same(80, room.uses(NEW));
      Testing.same(2, room.value(2, 11));
    });
    Testing.test("promise 30: the successor may be deprecated now", () -> {
      Patternroom room = places();
      room.setVariant(0, 1, OLD);
      room.deprecate(OLD, NEW);
      room.deprecate(NEW, 2);
      Testing.same(1, room.move(OLD));
      Testing.same(1, room.uses(NEW));
      Testing.same(8, room.uses(2));
    });
  }

  /** A page of one region whose front is OLD, of the value 80, on 20; NEW is its successor. */
  private static Patternroom movable(int value) {
    Patternroom room = new Patternroom();
    room.addToken(0, 80);
    room.addToken(0, value);
    room.addToken(0, 20);
    room.addToken(0, 16);
    room.addComponent(OLD, 2, 3);
    room.addPage();
    room.addUse(0, 0, 0);
    room.deprecate(OLD, NEW);
    return room;
  }

  private static void moveRefused() {
    Refused.test("promise 30: a page that would fail by 1 refuses, not being published",
        Refused.UNSUPPORTED, () -> movable(49), room -> room.move(OLD));
    Refused.test("promise 30: a published page that would fail refuses", Refused.UNSUPPORTED, () -> {
      Patternroom room = movable(49);
      room.publish(0);
      return room;
    }, room -> room.move(OLD));
    Refused.test("promise 30: a page that would fail in the last theme alone refuses",
        Refused.UNSUPPORTED, () -> {
          Patternroom room = movable(80);
          room.addTheme();
          room.addTheme();
          room.setValue(2, NEW, 49);
          return room;
        }, room -> room.move(OLD));
    Refused.test("promise 30: the last of four pages refuses alone", Refused.UNSUPPORTED, () -> {
      Patternroom room = Samples.full();
      room.setVariant(7, 2, 6);
      room.override(3, 0, -1);
      room.override(3, 3, 10);
      room.deprecate(9, 3);
      return room;
    }, room -> room.move(9));
    Refused.test("promise 30: a page refuses though another one would pass by this",
        Refused.UNSUPPORTED, () -> {
          Patternroom room = movable(20);
          room.addPage();
          room.addUse(1, 0, 0);
          room.override(1, OLD, 20);
          room.override(1, NEW, 80);
          return room;
        }, room -> room.move(OLD));
    Refused.test("promise 30: the references of the twelfth token stay when it is refused",
        Refused.UNSUPPORTED, () -> {
          Patternroom room = Samples.full();
          for (int theme = -1; theme < 3; theme++) {
            room.setReference(theme, 11, 5);
            room.setReference(theme, 4, 3);
          }
          room.deprecate(5, 3);
          return room;
        }, room -> room.move(5));
    Refused.test("promise 30: all kinds of uses stay when it is refused", Refused.UNSUPPORTED, () -> {
      Patternroom room = Samples.rich();
      room.setReference(1, Samples.TITLE, Samples.INK);
      room.setReference(0, Samples.TEXT, Samples.INK);
      room.addComponent(Samples.INK, Samples.INK, Samples.INK);
      room.setVariant(3, 1, Samples.INK);
      room.setVariant(3, 2, Samples.INK);
      room.deprecate(Samples.INK, Samples.PAPER);
      return room;
    }, room -> room.move(Samples.INK));
  }

  private static void moveNotRefused() {
    Testing.test("promise 30: a page that passes just so does not refuse", () -> {
      Patternroom room = movable(50);
      room.publish(0);
      Testing.same(1, room.move(OLD));
      Testing.same(50, room.shown(0, 0, 0, 0));
      Testing.same(1L, room.paintings());
    });
    Testing.test("promise 30: a successor of the same value paints no page", () -> {
      Patternroom room = movable(80);
      room.publish(0);
      Testing.same(1, room.move(OLD));
      Testing.same(0L, room.paintings());
    });
    Testing.test("promise 30: a page that does not pass does not refuse", () -> {
      Patternroom room = movable(49);
      room.setValue(-1, OLD, 49);
      Testing.same(1, room.move(OLD));
      Testing.same('c', room.failure(0, 0, 0));
    });
    Testing.test("promise 30: a stale page does not refuse, and shows what it showed", () -> {
      Patternroom room = movable(49);
      room.publish(0);
      room.setValue(-1, 3, 7);
      Testing.same(1, room.move(OLD));
      Testing.same('b', room.failure(0, 0, 0));
      Testing.same(80, room.shown(0, 0, 0, 0));
      Testing.same(0L, room.paintings());
    });
    Testing.test("promise 30: a stale page that passes by this is painted", () -> {
      Patternroom room = movable(90);
      room.publish(0);
      room.setValue(-1, OLD, 20);
      Testing.same(true, room.isStale(0));
      Testing.same(1, room.move(OLD));
      Testing.same(false, room.isStale(0));
      Testing.same(90, room.shown(0, 0, 0, 0));
      Testing.same(1L, room.paintings());
    });
    Testing.test("promise 30: an empty page does not refuse", () -> {
      Patternroom room = places();
      room.setLimits(99, 99, 99);
      room.setVariant(0, 1, OLD);
      room.addPage();
      room.publish(0);
      room.deprecate(OLD, NEW);
      Testing.same(1, room.move(OLD));
    });
    Testing.test("promise 30: without pages nothing refuses", () -> {
      Patternroom room = places();
      room.deprecate(2, 3);
      Testing.same(8, room.move(2));
      Testing.same(24, room.uses(3));
    });
    Testing.test("promise 30: all four pages are painted", () -> {
      Patternroom room = Samples.full();
      room.setValue(-1, 6, 91);
      Testing.same(12L, room.paintings());
      room.deprecate(9, 6);
      Testing.same(8, room.move(9));
      Testing.same(16L, room.paintings());
      Testing.same(91, room.shown(3, 2, 0, 0));
    });
  }
}
