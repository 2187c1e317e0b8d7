/** Libraries that several tests begin with. */
final class Samples {
  static final int INK = 0;
  static final int PAPER = 1;
  static final int SIZE = 2;
  static final int TEXT = 3;
  static final int TITLE = 4;
  static final int BRIGHT = 5;

  private Samples() {}

  /** INK 80, PAPER 20 and SIZE 16 of layer 0, TEXT of layer 1 to INK, TITLE of layer 2 to TEXT. */
  static Patternroom tokens() {
    Patternroom room = new Patternroom();
    room.addToken(0, 80);
    room.addToken(0, 20);
    room.addToken(0, 16);
    room.addToken(1, 50);
    room.addToken(2, 9);
    room.setReference(-1, TEXT, INK);
    room.setReference(-1, TITLE, TEXT);
    return room;
  }

  /** As many components as asked for, of TITLE on PAPER. */
  static Patternroom components(int count) {
    Patternroom room = tokens();
    for (int c = 0; c < count; c++) {
      room.addComponent(TITLE, PAPER, SIZE);
    }
    return room;
  }

  /** The component 0 in page 0. */
  static Patternroom page() {
    Patternroom room = components(2);
    room.addPage();
    room.addUse(0, 0, 0);
    return room;
  }

  static Patternroom published() {
    Patternroom room = page();
    room.publish(0);
    return room;
  }

  /**
   * Something of everything and room for one more of everything: 6 tokens (BRIGHT 90 of layer 0 the
   * last), 2 themes, 3 components of 1, 2 and 3 regions, 3 pages (0 published, 1 stale, 2 empty and
   * not published), 2 snapshots, 1 deprecated token and other limits than at first.
   */
  static Patternroom rich() {
    Patternroom room = components(3);
    room.addToken(0, 90);
    room.addTheme();
    room.setValue(1, INK, 70);
    room.setReference(1, TITLE, BRIGHT);
    room.setVariant(1, 1, BRIGHT);
    room.setSlot(1, 1, 0);
    room.setSlot(2, 0, 1);
    room.setLimits(25, 10, 70);
    for (int p = 0; p < 3; p++) {
      room.addPage();
    }
    room.addUse(0, 1, 1);
    room.addUse(0, 0, 0);
    room.override(0, PAPER, 10);
    room.publish(0);
    room.addUse(1, 2, 2);
    room.override(1, SIZE, 20);
    room.publish(1);
    room.override(1, SIZE, 80);
    room.snapshot(0, 0);
    room.snapshot(1, 1);
    room.deprecate(TEXT, INK);
    return room;
  }

  /**
   * As much of everything as the document allows: 12 tokens, four in each layer (fronts 90, backs
   * 10, sizes 20 in turn), 3 themes, 8 components, the last of 4 regions, 4 published pages of 6 uses,
   * 24 regions and 3 overrides, 8 snapshots.
   */
  static Patternroom full() {
    Patternroom room = new Patternroom();
    int[] values = {90, 10, 20};
    for (int t = 0; t < 12; t++) {
      room.addToken(t / 4, values[t % 3]);
    }
    for (int c = 0; c < 8; c++) {
      room.addComponent(9, 10, 11);
      room.setVariant(c, 1, 6);
      room.setVariant(c, 2, 3);
    }
    for (int slot = 0; slot < 3; slot++) {
      room.setSlot(7, slot, slot);
    }
    for (int p = 0; p < 4; p++) {
      room.addPage();
      for (int u = 0; u < 6; u++) {
        room.addUse(p, 7, u % 3);
      }
      for (int t = 0; t < 3; t++) {
        room.override(p, t, values[t]);
      }
      room.publish(p);
    }
    room.addTheme();
    room.addTheme();
    for (int s = 0; s < 8; s++) {
      room.snapshot(s % 3, s % 4);
    }
    return room;
  }
}
