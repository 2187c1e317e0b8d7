import java.util.function.Supplier;

/**
 * Long runs of calls on Patternroom and on PlainLibrary side by side. The numbers come of a fixed
 * seed, so each run is the same every time. Only calls that change something are counted: with the
 * questions a run has more calls than the document promises for, all answered by the same code.
 */
final class ModelTest {
  private static final int RUNS = 600;
  private static final int CALLS = 512;
  private static final int LOOK_EVERY = 16;

  private long seed;
  private int made;
  private final Patternroom room = new Patternroom();
  private final PlainLibrary plain = new PlainLibrary();
  private final StringBuilder calls = new StringBuilder();

  private ModelTest(long seed) {
    this.seed = seed;
  }

  static void run() {
    for (int group = 0; group < 6; group++) {
      int first = group * (RUNS / 6);
      Testing.test("promises 1 to 33: runs of calls as the plain library answers them, from "
          + first, () -> runs(first, first + RUNS / 6));
    }
  }

  private static void runs(int first, int end) {
    for (int r = first; r < end; r++) {
      new ModelTest(r * 7919L + 1).calls(r % 3);
    }
  }

  /** Some runs begin with a filled library, as a run of chance calls is long in filling one. */
  private void calls(int kind) {
    if (kind > 0) fill(kind == 1);
    while (made < CALLS) {
      change();
      ask();
      if (made % LOOK_EVERY < 2) lookAtAll();
    }
  }

  private int chance(int bound) {
    seed = seed * 6364136223846793005L + 1442695040888963407L;
    return (int) ((seed >>> 33) % bound);
  }

  /** A number from least to most, seldom one beyond them. */
  private int number(int least, int most) {
    int kind = chance(60);
    if (kind == 0) return least - 1;
    if (kind == 1) return most + 1;
    if (kind == 2) return chance(2) == 0 ? Integer.MIN_VALUE : Integer.MAX_VALUE;
    return least + chance(most - least + 1);
  }

  private int token() {
    return number(0, 11);
  }

  private int theme() {
    return number(0, 2);
  }

  private int page() {
    return number(0, 3);
  }

  private int component() {
    return number(0, 7);
  }

  /** Values far from one another, so that pages often pass. */
  private int valueOf(int token) {
    return number(0, 3) > 0 ? 10 + token % 3 * 30 + chance(6) : number(0, 99);
  }

  private void compare(String call, Supplier<Object> due, Supplier<Object> got) {
    Object wanted = Testing.outcome(due);
    Object answered = Testing.outcome(got);
    if (!wanted.equals(answered)) {
      throw new AssertionError(call + " answered " + answered + ", due is " + wanted + calls);
    }
  }

  private void step(String name, int a, int b, int c, Supplier<Object> due, Supplier<Object> got) {
    made++;
    String call = name + "(" + a + ", " + b + ", " + c + ")";
    compare(call, due, got);
    calls.append("\n  after ").append(call);
  }

  private void fill(boolean isEven) {
    for (int t = 0; t < 12; t++) {
      int layer = isEven ? t / 4 : chance(3);
      int value = valueOf(t);
      step("addToken", layer, value, 0,
          () -> plain.addToken(layer, value), () -> room.addToken(layer, value));
    }
    for (int c = 0; c < 8; c++) {
      int front = 3 * chance(4);
      int back = 3 * chance(4) + 2;
      int size = 3 * chance(4) + 1;
      step("addComponent", front, back, size,
          () -> plain.addComponent(front, back, size), () -> room.addComponent(front, back, size));
    }
    for (int p = 0; p < 4; p++) {
      int page = p;
      int used = chance(8);
      step("addPage", 0, 0, 0, plain::addPage, room::addPage);
      step("addUse", page, used, 0, () -> plain.addUse(page, used, 0), () -> room.addUse(page, used, 0));
      step("publish", page, 0, 0, () -> plain.publish(page), () -> room.publish(page));
    }
  }

  private void change() {
    switch (chance(5)) {
      case 0 -> changeTokens();
      case 1 -> changeComponents();
      case 2, 3 -> changePages();
      default -> changeOthers();
    }
  }

  private void changeTokens() {
    int theme = number(-1, 2);
    int token = token();
    int other = token();
    int value = valueOf(token);
    switch (chance(8)) {
      case 0 -> step("addToken", other % 3, value, 0,
          () -> plain.addToken(other % 3, value), () -> room.addToken(other % 3, value));
      case 1, 2 -> step("setValue", theme, token, value,
          () -> plain.setValue(theme, token, value), () -> room.setValue(theme, token, value));
      case 3, 4, 5 -> step("setReference", theme, token, other,
          () -> plain.setReference(theme, token, other),
          () -> room.setReference(theme, token, other));
      default -> step("drop", theme, token, 0,
          () -> plain.drop(theme, token), () -> room.drop(theme, token));
    }
  }

  private void changeComponents() {
    int component = component();
    int inner = number(-1, 7);
    int place = number(0, 2);
    int front = number(-1, 11);
    int back = token();
    int size = token();
    switch (chance(6)) {
      case 0 -> step("addComponent", front, back, size,
          () -> plain.addComponent(front, back, size), () -> room.addComponent(front, back, size));
      case 1, 2 -> step("setVariant", component, place, front,
          () -> plain.setVariant(component, place, front),
          () -> room.setVariant(component, place, front));
      default -> step("setSlot", component, place, inner,
          () -> plain.setSlot(component, place, inner), () -> room.setSlot(component, place, inner));
    }
  }

  private void changePages() {
    int page = page();
    int token = token();
    int component = component();
    int variant = number(0, 2);
    int value = chance(3) == 0 ? -1 : valueOf(token);
    switch (chance(12)) {
      case 0 -> step("addPage", 0, 0, 0, plain::addPage, room::addPage);
      case 1 -> step("addUse", page, component, variant,
          () -> plain.addUse(page, component, variant), () -> room.addUse(page, component, variant));
      case 2, 3, 4, 5 -> step("publish", page, 0, 0,
          () -> plain.publish(page), () -> room.publish(page));
      default -> step("override", page, token, value,
          () -> plain.override(page, token, value), () -> room.override(page, token, value));
    }
  }

  private void changeOthers() {
    int theme = theme();
    int page = page();
    int token = token();
    int successor = token();
    int contrast = chance(3) == 0 ? number(0, 99) : chance(15);
    int smallest = chance(3) == 0 ? number(0, 99) : chance(10);
    int greatest = chance(3) == 0 ? number(0, 99) : 99 - chance(20);
    switch (chance(12)) {
      case 0, 1, 2 -> step("setLimits", contrast, smallest, greatest,
          () -> plain.setLimits(contrast, smallest, greatest),
          () -> room.setLimits(contrast, smallest, greatest));
      case 3 -> step("snapshot", theme, page, 0,
          () -> plain.snapshot(theme, page), () -> room.snapshot(theme, page));
      case 4, 5 -> step("deprecate", token, successor, 0,
          () -> plain.deprecate(token, successor), () -> room.deprecate(token, successor));
      case 6 -> addThemeSeldom();
      default -> step("move", token, 0, 0, () -> plain.move(token), () -> room.move(token));
    }
  }

  private void addThemeSeldom() {
    if (chance(3) == 0) step("addTheme", 0, 0, 0, plain::addTheme, room::addTheme);
  }

  private void ask() {
    int theme = theme();
    int page = page();
    int token = token();
    int region = number(0, 23);
    int part = number(0, 2);
    compareInPage(theme, page, token);
    compareRegion(theme, page, region);
    compareShown(page, theme, region, part);
  }

  private void compareInPage(int theme, int page, int token) {
    compare("value", () -> plain.value(theme, token), () -> room.value(theme, token));
    compare("valueIn", () -> plain.valueIn(theme, page, token),
        () -> room.valueIn(theme, page, token));
    compare("valueAnew", () -> plain.valueAnew(theme, page, token),
        () -> room.valueAnew(theme, page, token));
  }

  private void compareRegion(int theme, int page, int region) {
    compare("failure", () -> plain.failure(theme, page, region),
        () -> room.failure(theme, page, region));
  }

  private void compareShown(int page, int theme, int region, int part) {
    compare("shown", () -> plain.shown(page, theme, region, part),
        () -> room.shown(page, theme, region, part));
  }

  private void lookAtAll() {
    compare("paintings", plain::paintings, room::paintings);
    compare("passShare", plain::passShare, room::passShare);
    compare("isSound", plain::isSound, room::isSound);
    for (int t = -1; t <= 12; t++) {
      int token = t;
      compare("uses", () -> plain.uses(token), () -> room.uses(token));
    }
    for (int n = -1; n <= 8; n++) {
      int number = n;
      compare("regionsOf", () -> plain.regionsOf(number), () -> room.regionsOf(number));
      compare("differing", () -> plain.differing(number), () -> room.differing(number));
    }
    for (int p = -1; p <= 4; p++) {
      int page = p;
      compare("regions", () -> plain.regions(page), () -> room.regions(page));
      compare("passes", () -> plain.passes(page), () -> room.passes(page));
      compare("isStale", () -> plain.isStale(page), () -> room.isStale(page));
      for (int theme = -1; theme <= 3; theme++) lookAt(theme, page);
    }
  }

  private void lookAt(int theme, int page) {
    compare("failures", () -> plain.failures(theme, page), () -> room.failures(theme, page));
    compare("meanContrast", () -> plain.meanContrast(theme, page),
        () -> room.meanContrast(theme, page));
    for (int token = 0; token <= 12; token++) compareInPage(theme, page, token);
    for (int region = 0; region <= 24; region++) {
      compareRegion(theme, page, region);
      for (int part = 0; part < 3; part++) compareShown(page, theme, region, part);
    }
  }
}
