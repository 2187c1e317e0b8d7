/** The boundary cases of the promises 10 to 13. */
final class ComponentEdgesTest {
  private ComponentEdgesTest() {}

  static void run() {
    addComponentRange();
    addComponentRoom();
    setVariantRange();
    setVariantGives();
    setVariantPaints();
    setSlotRange();
    setSlotOrder();
    setSlotRegions();
    setSlotHigher();
    setSlotPaints();
    regionsOf();
  }

  /** Component c has c + 1 regions, up to 4 of the component 3; the component 4 has 1 again. */
  private static Patternroom chain() {
    Patternroom room = Samples.components(5);
    for (int c = 1; c < 4; c++) {
      room.setSlot(c, c - 1, c - 1);
    }
    return room;
  }

  private static void addComponentRange() {
    Bounds.test("promise 10: the front", 0, 5, Refused.INDEX,
        (room, n) -> room.addComponent(n, 1, 2));
    Bounds.test("promise 10: the back", 0, 5, Refused.INDEX,
        (room, n) -> room.addComponent(0, n, 2));
    Bounds.test("promise 10: the size", 0, 5, Refused.INDEX,
        (room, n) -> room.addComponent(0, 1, n));
    Refused.test("promise 10: there is no token for a component without tokens", Refused.INDEX,
        Patternroom::new, room -> room.addComponent(0, 0, 0));
    Testing.test("promise 10: the twelfth token is taken for all three", () -> {
      Patternroom room = new Patternroom();
      for (int t = 0; t < 12; t++) {
        room.addToken(0, t);
      }
      Testing.same(0, room.addComponent(11, 11, 11));
      Testing.same(3, room.uses(11));
    });
    Testing.test("promise 10: a new component has one region", () -> {
      Patternroom room = Samples.rich();
      Testing.same(3, room.addComponent(0, 1, 2));
      Testing.same(1, room.regionsOf(3));
    });
    Testing.test("promise 10: a new component has no own fronts", () -> {
      Patternroom room = Samples.rich();
      room.addComponent(0, 1, 2);
      Testing.same(-1, room.setVariant(3, 1, -1));
      Testing.same(-1, room.setVariant(3, 2, -1));
    });
    Testing.test("promise 10: a new component has three empty slots", () -> {
      Patternroom room = Samples.rich();
      room.addComponent(0, 1, 2);
      for (int slot = 0; slot < 3; slot++) {
        Testing.same(-1, room.setSlot(3, slot, -1));
      }
    });
    Testing.test("promise 10: addComponent paints no page anew", () -> {
      Patternroom room = Samples.published();
      room.addComponent(0, 1, 2);
      Testing.same(0L, room.paintings());
    });
  }

  private static void addComponentRoom() {
    Testing.test("promise 10: the eighth component is taken", () -> {
      Patternroom room = Samples.tokens();
      for (int c = 0; c < 8; c++) {
        Testing.same(c, room.addComponent(0, 1, 2));
      }
      Testing.same(1, room.regionsOf(7));
    });
    Refused.test("promise 10: the ninth component is refused", Refused.STATE,
        () -> Samples.components(8), room -> room.addComponent(0, 1, 2));
    Refused.test("promise 10: the ninth component is refused in a full library", Refused.STATE,
        Samples::full, room -> room.addComponent(11, 11, 11));
    Refused.test("promise 10: a wrong front comes before no room", Refused.INDEX,
        () -> Samples.components(8), room -> room.addComponent(5, 1, 2));
    Refused.test("promise 10: a wrong back comes before no room", Refused.INDEX,
        () -> Samples.components(8), room -> room.addComponent(0, -1, 2));
    Refused.test("promise 10: a wrong size comes before no room", Refused.INDEX,
        () -> Samples.components(8), room -> room.addComponent(0, 1, 5));
    Testing.test("promise 10: a refused component takes no number", () -> {
      Patternroom room = Samples.rich();
      Testing.refuses(Refused.INDEX, () -> room.addComponent(0, 1, 6));
      Testing.same(3, room.addComponent(0, 1, 5));
    });
  }

  private static void setVariantRange() {
    Bounds.test("promise 11: the component", 0, 2, Refused.INDEX,
        (room, n) -> room.setVariant(n, 1, 0));
    Bounds.test("promise 11: the front", -1, 5, Refused.INDEX,
        (room, n) -> room.setVariant(0, 1, n));
    Bounds.test("promise 11: the variant", 1, 2, Refused.ARGUMENT,
        (room, n) -> room.setVariant(0, n, 0));
    Bounds.test("promise 11: of a full library the component", 0, 7, Refused.INDEX, Samples::full,
        (room, n) -> room.setVariant(n, 2, 0));
    Bounds.test("promise 11: of a full library the front", -1, 11, Refused.INDEX, Samples::full,
        (room, n) -> room.setVariant(7, 2, n));
    Refused.test("promise 11: the variant 0 has no own front to take away", Refused.ARGUMENT,
        room -> room.setVariant(0, 0, -1));
    Refused.test("promise 11: a wrong component comes before a wrong variant", Refused.INDEX,
        room -> room.setVariant(3, 0, 0));
    Refused.test("promise 11: a wrong front comes before a wrong variant", Refused.INDEX,
        room -> room.setVariant(0, 3, 6));
    Refused.test("promise 11: a front of -2 comes before a wrong variant", Refused.INDEX,
        room -> room.setVariant(0, 0, -2));
    Refused.test("promise 11: there is no component without components", Refused.INDEX,
        Samples::tokens, room -> room.setVariant(0, 1, -1));
  }

  private static void setVariantGives() {
    Testing.test("promise 11: without an own front -1 is answered", () -> {
      Patternroom room = Samples.rich();
      Testing.same(-1, room.setVariant(0, 1, 0));
      Testing.same(-1, room.setVariant(0, 2, -1));
    });
    Testing.test("promise 11: the token 0 as an own front is answered", () -> {
      Patternroom room = Samples.rich();
      room.setVariant(0, 1, 0);
      Testing.same(0, room.setVariant(0, 1, -1));
      Testing.same(-1, room.setVariant(0, 1, -1));
    });
    Testing.test("promise 11: the own fronts of two variants are two", () -> {
      Patternroom room = Samples.rich();
      room.setVariant(0, 1, 4);
      room.setVariant(0, 2, 5);
      Testing.same(4, room.setVariant(0, 1, 5));
      Testing.same(5, room.setVariant(0, 2, 4));
      Testing.same(5, room.setVariant(0, 1, -1));
    });
    Testing.test("promise 11: the own front of the component's front is a front like another", () -> {
      Patternroom room = Samples.components(1);
      Testing.same(-1, room.setVariant(0, 1, Samples.TITLE));
      Testing.same(2, room.uses(Samples.TITLE));
      Testing.same(Samples.TITLE, room.setVariant(0, 1, -1));
      Testing.same(1, room.uses(Samples.TITLE));
    });
  }

  /** The component 1 holds the component 0; both have own fronts for the variants 1 and 2. */
  private static Patternroom variants() {
    Patternroom room = Samples.components(2);
    room.addToken(0, 90);
    room.addToken(0, 91);
    for (int c = 0; c < 2; c++) {
      room.setVariant(c, 1, 5);
      room.setVariant(c, 2, 6);
    }
    room.setSlot(1, 0, 0);
    room.addPage();
    return room;
  }

  private static void setVariantPaints() {
    int[] fronts = {80, 90, 91};
    for (int v = 0; v < 3; v++) {
      int variant = v;
      Testing.test("promise 11: the front of a use with the variant " + v, () -> {
        Patternroom room = variants();
        room.addUse(0, 1, variant);
        room.publish(0);
        Testing.same(fronts[variant], room.shown(0, 0, 0, 0));
        // What stands in a slot is used with the variant 0, whatever the use is.
        Testing.same(80, room.shown(0, 0, 1, 0));
      });
    }
    Testing.test("promise 11: a variant without an own front has that of the component", () -> {
      Patternroom room = variants();
      room.addUse(0, 1, 1);
      room.publish(0);
      room.setVariant(1, 1, -1);
      Testing.same(80, room.shown(0, 0, 0, 0));
      Testing.same(1L, room.paintings());
    });
    Testing.test("promise 11: an own front that no page uses paints none", () -> {
      Patternroom room = variants();
      room.addUse(0, 1, 1);
      room.publish(0);
      room.setVariant(1, 2, Samples.PAPER);
      room.setVariant(0, 1, Samples.PAPER);
      Testing.same(0L, room.paintings());
      Testing.same(false, room.isStale(0));
    });
    Testing.test("promise 11: a page that fails by an own front grows stale", () -> {
      Patternroom room = variants();
      room.addUse(0, 0, 2);
      room.publish(0);
      room.setVariant(0, 2, Samples.PAPER);
      Testing.same(true, room.isStale(0));
      Testing.same(91, room.shown(0, 0, 0, 0));
    });
  }

  private static void setSlotRange() {
    Bounds.test("promise 12: the component", 0, 2, Refused.INDEX,
        (room, n) -> room.setSlot(n, 2, -1));
    Bounds.test("promise 12: the slot", 0, 2, Refused.ARGUMENT,
        (room, n) -> room.setSlot(2, n, 0));
    Bounds.test("promise 12: the slot of none", 0, 2, Refused.ARGUMENT,
        (room, n) -> room.setSlot(0, n, -1));
    Bounds.test("promise 12: of a full library the component", 0, 7, Refused.INDEX, Samples::full,
        (room, n) -> room.setSlot(n, 2, -1));
    Testing.test("promise 12: the least inner number, 0, is taken",
        () -> Testing.same(-1, Samples.components(8).setSlot(7, 0, 0)));
    Testing.test("promise 12: the greatest inner number, the next lower one, is taken",
        () -> Testing.same(-1, Samples.components(8).setSlot(7, 0, 6)));
    Refused.test("promise 12: a component does not hold itself", Refused.ARGUMENT,
        () -> Samples.components(8), room -> room.setSlot(6, 0, 6));
    Refused.test("promise 12: a component does not hold the next higher one", Refused.ARGUMENT,
        () -> Samples.components(8), room -> room.setSlot(6, 0, 7));
    Refused.test("promise 12: the component 0 holds none", Refused.ARGUMENT,
        () -> Samples.components(8), room -> room.setSlot(0, 0, 0));
    Refused.test("promise 12: the inner number -2 is refused", Refused.INDEX,
        room -> room.setSlot(2, 0, -2));
    Refused.test("promise 12: the inner number 3 of 3 components is refused", Refused.INDEX,
        room -> room.setSlot(2, 0, 3));
    Refused.test("promise 12: an inner number far above is refused", Refused.INDEX,
        room -> room.setSlot(2, 0, Integer.MAX_VALUE));
    Refused.test("promise 12: an inner number far below is refused", Refused.INDEX,
        room -> room.setSlot(2, 0, Integer.MIN_VALUE));
    Refused.test("promise 12: there is no component without components", Refused.INDEX,
        Samples::tokens, room -> room.setSlot(0, 0, -1));
  }

  private static void setSlotOrder() {
    Refused.test("promise 12: a wrong component comes before a wrong slot", Refused.INDEX,
        room -> room.setSlot(3, 3, 0));
    Refused.test("promise 12: a wrong inner number comes before a wrong slot", Refused.INDEX,
        room -> room.setSlot(2, 3, 3));
    Refused.test("promise 12: an inner number that there is not comes before one not lower",
        Refused.INDEX, room -> room.setSlot(0, 0, 3));
    Refused.test("promise 12: a wrong component comes before an inner one not lower",
        Refused.INDEX, room -> room.setSlot(-1, 0, 0));
    Refused.test("promise 12: a wrong slot comes before too many regions", Refused.ARGUMENT,
        ComponentEdgesTest::chain, room -> room.setSlot(4, 3, 3));
    Refused.test("promise 12: an inner one not lower comes before too many regions",
        Refused.ARGUMENT, ComponentEdgesTest::chain, room -> room.setSlot(3, 0, 3));
    Refused.test("promise 12: a higher inner one comes before too many regions", Refused.ARGUMENT,
        ComponentEdgesTest::chain, room -> room.setSlot(1, 1, 3));
  }

  private static void setSlotRegions() {
    Testing.test("promise 12: a fourth region is taken, one in each slot", () -> {
      Patternroom room = Samples.components(2);
      for (int slot = 0; slot < 3; slot++) {
        Testing.same(-1, room.setSlot(1, slot, 0));
      }
      Testing.same(4, room.regionsOf(1));
    });
    Testing.test("promise 12: a fourth region is taken, all in one slot", () -> {
      Patternroom room = Samples.components(3);
      room.setSlot(1, 0, 0);
      room.setSlot(1, 2, 0);
      Testing.same(-1, room.setSlot(2, 1, 1));
      Testing.same(4, room.regionsOf(2));
    });
    Refused.test("promise 12: a fifth region is refused, all in one slot", Refused.UNSUPPORTED,
        ComponentEdgesTest::chain, room -> room.setSlot(4, 0, 3));
    Refused.test("promise 12: a fifth region is refused, in a second slot", Refused.UNSUPPORTED,
        ComponentEdgesTest::chain, room -> room.setSlot(3, 1, 0));
    Refused.test("promise 12: a fifth region is refused in place of a single one",
        Refused.UNSUPPORTED, () -> {
          Patternroom room = chain();
          room.setSlot(4, 0, 0);
          room.setSlot(4, 1, 1);
          return room;
        }, room -> room.setSlot(4, 0, 1));
    Testing.test("promise 12: in a component of 4 regions one goes in place of another", () -> {
      Patternroom room = chain();
      Testing.same(2, room.setSlot(3, 2, 2));
      Testing.same(2, room.setSlot(3, 2, 0));
      Testing.same(2, room.regionsOf(3));
    });
    Testing.test("promise 12: of a component of 4 regions a slot can be made empty", () -> {
      Patternroom room = chain();
      Testing.same(2, room.setSlot(3, 2, -1));
      Testing.same(1, room.regionsOf(3));
    });
    Testing.test("promise 12: an empty slot of a component of 4 regions can be made empty", () -> {
      Patternroom room = chain();
      Testing.same(-1, room.setSlot(3, 1, -1));
      Testing.same(4, room.regionsOf(3));
    });
    Testing.test("promise 12: the component 0 in a slot is answered as 0", () -> {
      Patternroom room = Samples.components(2);
      Testing.same(-1, room.setSlot(1, 1, 0));
      Testing.same(0, room.setSlot(1, 1, -1));
      Testing.same(-1, room.setSlot(1, 1, -1));
    });
  }

  private static void setSlotHigher() {
    Refused.test("promise 12: a component that holds this one would have 5 regions",
        Refused.UNSUPPORTED, ComponentEdgesTest::chain, room -> room.setSlot(2, 0, 0));
    Refused.test("promise 12: one that holds this one by another one would have 5 regions",
        Refused.UNSUPPORTED, () -> {
          Patternroom room = chain();
          room.setSlot(3, 2, -1);
          room.setSlot(3, 0, 1);
          room.setSlot(4, 2, 3);
          return room;
        }, room -> room.setSlot(1, 1, 0));
    Refused.test("promise 12: one that holds this one twice would have 5 regions",
        Refused.UNSUPPORTED, () -> {
          Patternroom room = Samples.components(3);
          room.setSlot(2, 0, 1);
          room.setSlot(2, 1, 1);
          return room;
        }, room -> room.setSlot(1, 0, 0));
    Testing.test("promise 12: a component that holds this one gets its fourth region", () -> {
      Patternroom room = Samples.components(4);
      room.setSlot(2, 0, 1);
      room.setSlot(3, 0, 2);
      Testing.same(-1, room.setSlot(1, 0, 0));
      Testing.same(4, room.regionsOf(3));
    });
    Testing.test("promise 12: components that do not hold this one do not matter", () -> {
      Patternroom room = chain();
      for (int slot = 0; slot < 3; slot++) {
        Testing.same(-1, room.setSlot(4, slot, 0));
      }
      Testing.same(4, room.regionsOf(4));
    });
  }

  private static void setSlotPaints() {
    Testing.test("promise 12: the regions are in the order of the slots", () -> {
      Patternroom room = Samples.tokens();
      for (int c = 0; c < 3; c++) {
        room.addToken(0, 81 + c);
        room.addComponent(5 + c, Samples.PAPER, Samples.SIZE);
      }
      room.addComponent(Samples.INK, Samples.PAPER, Samples.SIZE);
      room.setSlot(3, 2, 0);
      room.setSlot(3, 0, 2);
      room.setSlot(3, 1, 1);
      room.addPage();
      room.addUse(0, 3, 0);
      room.publish(0);
      int[] fronts = {80, 83, 82, 81};
      for (int r = 0; r < 4; r++) {
        Testing.same(fronts[r], room.shown(0, 0, r, 0));
      }
    });
    Testing.test("promise 12: inner regions of inner ones come before the next slot", () -> {
      Patternroom room = Samples.tokens();
      for (int c = 0; c < 4; c++) {
        room.addToken(0, 81 + c);
        room.addComponent(5 + c, Samples.PAPER, Samples.SIZE);
      }
      room.setSlot(2, 1, 1);
      room.setSlot(3, 1, 2);
      room.setSlot(3, 2, 0);
      room.addPage();
      room.addUse(0, 3, 2);
      room.publish(0);
      int[] fronts = {84, 83, 82, 81};
      for (int r = 0; r < 4; r++) {
        Testing.same(fronts[r], room.shown(0, 0, r, 0));
      }
    });
    Testing.test("promise 12: a page of the component that holds this one is painted anew", () -> {
      Patternroom room = chain();
      room.addPage();
      room.addUse(0, 3, 0);
      room.publish(0);
      room.setSlot(1, 0, -1);
      Testing.same(1L, room.paintings());
      Testing.same(16, room.shown(0, 0, 2, 2));
      Testing.refuses(Refused.MISSING, () -> room.shown(0, 0, 3, 2));
    });
    Testing.test("promise 12: a page without this component is not painted anew", () -> {
      Patternroom room = chain();
      room.addPage();
      room.addUse(0, 0, 0);
      room.publish(0);
      room.setSlot(3, 2, 0);
      Testing.same(0L, room.paintings());
    });
  }

  private static void regionsOf() {
    Bounds.test("promise 13: the component", 0, 2, Refused.INDEX,
        (room, n) -> room.regionsOf(n));
    Bounds.test("promise 13: of a full library the component", 0, 7, Refused.INDEX, Samples::full,
        (room, n) -> room.regionsOf(n));
    Refused.test("promise 13: there is no component without components", Refused.INDEX,
        Samples::tokens, room -> room.regionsOf(0));
    Testing.test("promise 13: the least number of regions is 1",
        () -> Testing.same(1, chain().regionsOf(0)));
    Testing.test("promise 13: the greatest number of regions is 4",
        () -> Testing.same(4, chain().regionsOf(3)));
    Testing.test("promise 13: variants do not change the number of regions", () -> {
      Patternroom room = chain();
      room.setVariant(3, 1, Samples.INK);
      Testing.same(4, room.regionsOf(3));
    });
  }
}
