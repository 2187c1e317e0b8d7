/** Libraries that several tests begin with. */
final class Samples {
  static final int INK = 0;
  static final int PAPER = 1;
  static final int SIZE = 2;
  static final int TEXT = 3;
  static final int TITLE = 4;

  private Samples() {}

  /** INK 80, PAPER 20 and SIZE 16 of layer 0, TEXT of layer 1 to INK, TITLE of layer 2 to TEXT. */
  static Patternroom tokens() {
    Patternroom room = new Patternroom();
    room.addToken(0, 80);
    room.addToken(0, 20);
    room.addToken(0, 16);
    room.addToken(1, 50);
    room.addToken(2, 9);
    room.setReference(-1, TEXT, INK);
    room.setReference(-1, TITLE, TEXT);
    return room;
  }

  /** As many components as asked for, of TITLE on PAPER. */
  static Patternroom components(int count) {
    Patternroom room = tokens();
    for (int c = 0; c < count; c++) {
      room.addComponent(TITLE, PAPER, SIZE);
    }
    return room;
  }

  /** The component 0 in page 0. */
  static Patternroom page() {
    Patternroom room = components(2);
    room.addPage();
    room.addUse(0, 0, 0);
    return room;
  }

  static Patternroom published() {
    Patternroom room = page();
    room.publish(0);
    return room;
  }
}
