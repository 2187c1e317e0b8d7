import java.util.Arrays;
import java.util.NoSuchElementException;

/** A style library. The promises that its document numbers stand behind the methods here. */
public final class Patternroom {
  private static final int MOST_TOKENS = 12;
  private static final int MOST_THEMES = 3;
  private static final int MOST_COMPONENTS = 8;
  private static final int MOST_REGIONS_OF_COMPONENT = 4;
  private static final int MOST_PAGES = 4;
  private static final int MOST_USES = 6;
  private static final int MOST_OVERRIDES = 3;
  private static final int MOST_REGIONS_OF_PAGE = MOST_USES * MOST_REGIONS_OF_COMPONENT;
  private static final int MOST_SNAPSHOTS = 8;
  private static final int LAYERS = 3;
  private static final int VARIANTS = 3;
  private static final int SLOTS = 3;
  private static final int GREATEST_VALUE = 99;
  private static final int FRONT = 0;
  private static final int BACK = 1;
  private static final int SIZE = 2;
  private static final int PARTS = 3;
  private static final int NONE = -1;

  private final Tokens tokens;
  private final Components components;
  private final Page[] pages;
  private int pageCount;
  private final Limits limits;
  private final Snapshot[] snapshots;
  private int snapshotCount;
  private long paintingCount;
  // Made once and filled again for each look at a page, so that no call makes an object.
  private final View now;

  public Patternroom() {
    tokens = new Tokens();
    components = new Components();
    pages = new Page[MOST_PAGES];
    for (int p = 0; p < MOST_PAGES; p++) {
      pages[p] = new Page();
    }
    limits = new Limits();
    snapshots = new Snapshot[MOST_SNAPSHOTS];
    for (int s = 0; s < MOST_SNAPSHOTS; s++) {
      snapshots[s] = new Snapshot();
    }
    now = new View();
  }

  // ---- tokens and themes

  public int addToken(int layer, int value) throws IllegalArgumentException, IllegalStateException {
    needRange(layer, 0, LAYERS - 1);
    needRange(value, 0, GREATEST_VALUE);
    needRoom(tokens.count, MOST_TOKENS);
    return tokens.append(layer, value);
  }

  public int addTheme() throws IllegalStateException {
    needRoom(tokens.themes, MOST_THEMES);
    int theme = tokens.themes;
    tokens.themes = theme + 1;
    repaint();
    return theme;
  }

  public int setValue(int theme, int token, int value)
      throws IndexOutOfBoundsException, IllegalArgumentException {
    needThemeOrNone(theme);
    needToken(token);
    needRange(value, 0, GREATEST_VALUE);
    tokens.defineByValue(theme, token, value);
    forgetValues();
    return repaint();
  }

  public int setReference(int theme, int token, int other)
      throws IndexOutOfBoundsException, IllegalArgumentException {
    needThemeOrNone(theme);
    needToken(token);
    needToken(other);
    if (tokens.layers[other] >= tokens.layers[token]) {
      throw new IllegalArgumentException("a reference must lead to a lower layer");
    }
    tokens.defineByReference(theme, token, other);
    forgetValues();
    return repaint();
  }

  public int drop(int theme, int token) throws IndexOutOfBoundsException, NoSuchElementException {
    needTheme(theme);
    needToken(token);
    if (!tokens.isDefinedIn(theme, token)) {
      throw new NoSuchElementException("the theme has no own definition");
    }
    tokens.undefineIn(theme, token);
    forgetValues();
    return repaint();
  }

  public int value(int theme, int token) throws IndexOutOfBoundsException {
    needTheme(theme);
    needToken(token);
    return tokens.find(theme, token, tokens.noOverrides);
  }

  public int valueIn(int theme, int page, int token) throws IndexOutOfBoundsException {
    needTheme(theme);
    needPage(page);
    needToken(token);
    return pages[page].keptValue(tokens, theme, token);
  }

  public int valueAnew(int theme, int page, int token) throws IndexOutOfBoundsException {
    needTheme(theme);
    needPage(page);
    needToken(token);
    return tokens.find(theme, token, pages[page].overrides);
  }

  // ---- components

  public int addComponent(int front, int back, int size)
      throws IndexOutOfBoundsException, IllegalStateException {
    needToken(front);
    needToken(back);
    needToken(size);
    needRoom(components.count, MOST_COMPONENTS);
    return components.append(front, back, size);
  }

  public int setVariant(int component, int variant, int front)
      throws IndexOutOfBoundsException, IllegalArgumentException {
    needComponent(component);
    needTokenOrNone(front);
    needRange(variant, 1, VARIANTS - 1);
    int before = components.putOwnFront(component, variant, front);
    layOutPages();
    repaint();
    return before;
  }

  public int setSlot(int component, int slot, int inner)
      throws IndexOutOfBoundsException, IllegalArgumentException, UnsupportedOperationException {
    needComponent(component);
    needComponentOrNone(inner);
    needRange(slot, 0, SLOTS - 1);
    if (inner >= component) {
      throw new IllegalArgumentException("a slot holds only a component with a lower number");
    }
    if (!components.haveRoomFor(component, slot, inner)) {
      throw new UnsupportedOperationException("a component would have too many regions");
    }
    int before = components.putInner(component, slot, inner);
    layOutPages();
    repaint();
    return before;
  }

  public int regionsOf(int component) throws IndexOutOfBoundsException {
    needComponent(component);
    return components.regionCounts[component];
  }

  // ---- pages

  public int addPage() throws IllegalStateException {
    needRoom(pageCount, MOST_PAGES);
    pageCount++;
    return pageCount - 1;
  }

  public int addUse(int page, int component, int variant)
      throws IndexOutOfBoundsException, IllegalArgumentException, IllegalStateException {
    needPage(page);
    needComponent(component);
    needRange(variant, 0, VARIANTS - 1);
    Page user = pages[page];
    needRoom(user.useCount, MOST_USES);
    user.appendUse(component, variant);
    user.layOut(components);
    repaint();
    return user.useCount;
  }

  public int override(int page, int token, int value)
      throws IndexOutOfBoundsException, IllegalArgumentException, NoSuchElementException,
          IllegalStateException {
    needPage(page);
    needToken(token);
    needRange(value, NONE, GREATEST_VALUE);
    Page changed = pages[page];
    boolean isNew = changed.overrides[token] == NONE;
    if (value == NONE && isNew) {
      throw new NoSuchElementException("there is no override to end");
    }
    if (isNew) {
      needRoom(changed.overrideCount, MOST_OVERRIDES);
    }
    changed.putOverride(token, value);
    changed.forgetValues();
    repaint();
    return changed.overrideCount;
  }

  public int regions(int page) throws IndexOutOfBoundsException {
    needPage(page);
    return pages[page].regionCount;
  }

  // ---- checks

  public int setLimits(int contrast, int smallest, int greatest) throws IllegalArgumentException {
    needRange(contrast, 0, GREATEST_VALUE);
    needRange(smallest, 0, GREATEST_VALUE);
    needRange(greatest, smallest, GREATEST_VALUE);
    limits.contrast = contrast;
    limits.smallest = smallest;
    limits.greatest = greatest;
    repaint();
    return Integer.bitCount(passingPages());
  }

  public int failures(int theme, int page) throws IndexOutOfBoundsException {
    needTheme(theme);
    needPage(page);
    return limits.countFailures(present(theme, page));
  }

  public char failure(int theme, int page, int region)
      throws IndexOutOfBoundsException, NoSuchElementException {
    needTheme(theme);
    needPage(page);
    if (region < 0 || region >= pages[page].regionCount) {
      throw new NoSuchElementException("there is no such region");
    }
    return limits.verdict(present(theme, page), region);
  }

  public boolean passes(int page) throws IndexOutOfBoundsException {
    needPage(page);
    return isPassing(page);
  }

  // ---- publishing and snapshots

  public int publish(int page)
      throws IndexOutOfBoundsException, IllegalStateException, UnsupportedOperationException {
    needPage(page);
    if (pages[page].isPublished) {
      throw new IllegalStateException("the page is published");
    }
    if (!isPassing(page)) {
      throw new UnsupportedOperationException("the page does not pass");
    }
    pages[page].isPublished = true;
    paint(page);
    return countPublished();
  }

  public boolean isStale(int page) throws IndexOutOfBoundsException {
    needPage(page);
    return pages[page].isPublished && !isPassing(page);
  }

  public int shown(int page, int theme, int region, int part)
      throws IndexOutOfBoundsException, IllegalArgumentException, NoSuchElementException {
    needPage(page);
    needRange(part, 0, PARTS - 1);
    // A page that is not published shows no theme yet, so this refuses it too.
    if (theme < 0 || theme >= pages[page].shownThemes) {
      throw new NoSuchElementException("the page does not show such a theme");
    }
    View view = pages[page].shownViews[theme];
    if (region < 0 || region >= view.regionCount) {
      throw new NoSuchElementException("the page does not show such a region");
    }
    return view.partOf(region, part);
  }

  public long paintings() {
    return paintingCount;
  }

  public int snapshot(int theme, int page) throws IndexOutOfBoundsException, IllegalStateException {
    needTheme(theme);
    needPage(page);
    needRoom(snapshotCount, MOST_SNAPSHOTS);
    Snapshot taken = snapshots[snapshotCount];
    taken.theme = theme;
    taken.page = page;
    taken.view.copyFrom(present(theme, page));
    snapshotCount++;
    return snapshotCount - 1;
  }

  public int differing(int snapshot) throws NoSuchElementException {
    if (snapshot < 0 || snapshot >= snapshotCount) {
      throw new NoSuchElementException("there is no such snapshot");
    }
    Snapshot taken = snapshots[snapshot];
    return taken.view.countDifferences(present(taken.theme, taken.page));
  }

  // ---- deprecations

  public int deprecate(int token, int successor)
      throws IndexOutOfBoundsException, IllegalArgumentException, IllegalStateException {
    needToken(token);
    needToken(successor);
    if (token == successor || tokens.layers[successor] > tokens.layers[token]) {
      throw new IllegalArgumentException("a successor is another token of no higher layer");
    }
    if (tokens.successors[successor] != NONE) {
      throw new IllegalStateException("the successor is deprecated");
    }
    tokens.successors[token] = successor;
    return tokens.countDeprecated();
  }

  public int uses(int token) throws IndexOutOfBoundsException {
    needToken(token);
    return countUses(token);
  }

  public int move(int token)
      throws IndexOutOfBoundsException, NoSuchElementException, UnsupportedOperationException {
    needToken(token);
    int successor = tokens.successors[token];
    if (successor == NONE) {
      throw new NoSuchElementException("the token is not deprecated");
    }
    int moved = countUses(token);
    int passedBefore = passingPages();
    replaceUses(token, successor);
    if ((passedBefore & ~passingPages()) != 0) {
      undoReplacing();
      throw new UnsupportedOperationException("a page that passes would not pass any more");
    }
    repaint();
    return moved;
  }

  // ---- figures

  public float passShare() throws ArithmeticException {
    if (pageCount == 0) {
      throw new ArithmeticException("there are no pages");
    }
    return (float) Integer.bitCount(passingPages()) / (float) pageCount;
  }

  public double meanContrast(int theme, int page)
      throws IndexOutOfBoundsException, ArithmeticException {
    needTheme(theme);
    needPage(page);
    View view = present(theme, page);
    if (view.regionCount == 0) {
      throw new ArithmeticException("the page has no regions");
    }
    return (double) view.sumOfContrasts() / (double) view.regionCount;
  }

  public boolean isSound() {
    for (int p = 0; p < pageCount; p++) {
      if (!keepsRightValues(p)) {
        return false;
      }
      if (pages[p].isPublished && isPassing(p) && !showsPresent(p)) {
        return false;
      }
    }
    return true;
  }

  // ---- what the calls refuse

  private void needTheme(int theme) {
    if (theme < 0 || theme >= tokens.themes) {
      throw new IndexOutOfBoundsException("there is no such theme");
    }
  }

  private void needThemeOrNone(int theme) {
    if (theme != NONE) {
      needTheme(theme);
    }
  }

  private void needToken(int token) {
    if (token < 0 || token >= tokens.count) {
      throw new IndexOutOfBoundsException("there is no such token");
    }
  }

  private void needTokenOrNone(int token) {
    if (token != NONE) {
      needToken(token);
    }
  }

  private void needComponent(int component) {
    if (component < 0 || component >= components.count) {
      throw new IndexOutOfBoundsException("there is no such component");
    }
  }

  private void needComponentOrNone(int component) {
    if (component != NONE) {
      needComponent(component);
    }
  }

  private void needPage(int page) {
    if (page < 0 || page >= pageCount) {
      throw new IndexOutOfBoundsException("there is no such page");
    }
  }

  private static void needRange(int number, int least, int most) {
    if (number < least || number > most) {
      throw new IllegalArgumentException("a number is out of range");
    }
  }

  private static void needRoom(int count, int most) {
    if (count >= most) {
      throw new IllegalStateException("there is no room for one more");
    }
  }

  // ---- pages as they are now

  private View present(int theme, int page) {
    pages[page].fillView(now, tokens, theme);
    return now;
  }

  private boolean isPassing(int page) {
    for (int t = 0; t < tokens.themes; t++) {
      if (limits.countFailures(present(t, page)) > 0) {
        return false;
      }
    }
    return true;
  }

  /** The pages that pass, as a set of bits. */
  private int passingPages() {
    int passing = 0;
    for (int p = 0; p < pageCount; p++) {
      if (isPassing(p)) {
        passing |= 1 << p;
      }
    }
    return passing;
  }

  private boolean showsPresent(int page) {
    Page looked = pages[page];
    if (looked.shownThemes != tokens.themes) {
      return false;
    }
    for (int t = 0; t < tokens.themes; t++) {
      if (looked.shownViews[t].countDifferences(present(t, page)) > 0) {
        return false;
      }
    }
    return true;
  }

  private boolean keepsRightValues(int page) {
    Page looked = pages[page];
    for (int theme = 0; theme < tokens.themes; theme++) {
      for (int token = 0; token < tokens.count; token++) {
        int anew = tokens.find(theme, token, looked.overrides);
        if (looked.keptValue(tokens, theme, token) != anew) {
          return false;
        }
      }
    }
    return true;
  }

  private int countUses(int token) {
    return tokens.countReferences(token) + components.countTokens(token);
  }

  private int countPublished() {
    int published = 0;
    for (int p = 0; p < pageCount; p++) {
      if (pages[p].isPublished) {
        published++;
      }
    }
    return published;
  }

  // ---- what follows a change

  private void forgetValues() {
    for (int p = 0; p < pageCount; p++) {
      pages[p].forgetValues();
    }
  }

  private void layOutPages() {
    for (int p = 0; p < pageCount; p++) {
      pages[p].layOut(components);
    }
  }

  /** Ends each call that can change what a page shows; returns the number of pages painted anew. */
  private int repaint() {
    int painted = 0;
    for (int p = 0; p < pageCount; p++) {
      if (pages[p].isPublished && isPassing(p) && !showsPresent(p)) {
        paint(p);
        painted++;
      }
    }
    paintingCount += painted;
    return painted;
  }

  private void paint(int page) {
    Page painted = pages[page];
    painted.shownThemes = tokens.themes;
    for (int t = 0; t < tokens.themes; t++) {
      painted.shownViews[t].copyFrom(present(t, page));
    }
  }

  private void replaceUses(int token, int successor) {
    tokens.replaceReferences(token, successor);
    components.replaceTokens(token, successor);
    forgetValues();
    layOutPages();
  }

  private void undoReplacing() {
    tokens.undoReplacing();
    components.undoReplacing();
    forgetValues();
    layOutPages();
  }

  private static int countIn(int[] row, int length, int number) {
    int found = 0;
    for (int k = 0; k < length; k++) {
      if (row[k] == number) {
        found++;
      }
    }
    return found;
  }

  private static void replaceIn(int[] row, int length, int number, int other) {
    for (int k = 0; k < length; k++) {
      if (row[k] == number) {
        row[k] = other;
      }
    }
  }

  /** The tokens, with their definitions and those of the themes. */
  private static final class Tokens {
    // A definition is NONE, a value, or this number plus that of the referenced token.
    private static final int FIRST_REFERENCE = GREATEST_VALUE + 1;
    private static final int DEFINITION_ROWS = MOST_THEMES + 1;

    private int count;
    private int themes;
    private final int[] layers;
    private final int[] successors;
    private final int[] noOverrides;
    // Row 0 is of the tokens themselves, as the calls number them by -1; row t + 1 of theme t.
    private final int[][] definitions;
    private final int[][] definitionsBefore;

    private Tokens() {
      themes = 1;
      layers = new int[MOST_TOKENS];
      successors = new int[MOST_TOKENS];
      noOverrides = new int[MOST_TOKENS];
      definitions = new int[DEFINITION_ROWS][MOST_TOKENS];
      definitionsBefore = new int[DEFINITION_ROWS][MOST_TOKENS];
      Arrays.fill(successors, NONE);
      Arrays.fill(noOverrides, NONE);
      for (int row = 0; row < DEFINITION_ROWS; row++) {
        Arrays.fill(definitions[row], NONE);
      }
    }

    private int append(int layer, int value) {
      int token = count;
      layers[token] = layer;
      definitions[0][token] = value;
      count++;
      return token;
    }

    private void defineByValue(int theme, int token, int value) {
      definitions[theme + 1][token] = value;
    }

    private void defineByReference(int theme, int token, int other) {
      definitions[theme + 1][token] = FIRST_REFERENCE + other;
    }

    private boolean isDefinedIn(int theme, int token) {
      return definitions[theme + 1][token] != NONE;
    }

    private void undefineIn(int theme, int token) {
      definitions[theme + 1][token] = NONE;
    }

    /** Follows the references; an override ends the way at whichever token it stands. */
    private int find(int theme, int token, int[] overrides) {
      int at = token;
      // Each reference leads to a lower layer, so the way meets a value within these steps.
      for (int step = 0; step < LAYERS; step++) {
        if (overrides[at] != NONE) {
          return overrides[at];
        }
        int definition = definitions[theme + 1][at];
        if (definition == NONE) {
          definition = definitions[0][at];
        }
        if (definition < FIRST_REFERENCE) {
          return definition;
        }
        at = definition - FIRST_REFERENCE;
      }
      return NONE;
    }

    private int countDeprecated() {
      return count - countIn(successors, count, NONE);
    }

    private int countReferences(int token) {
      int found = 0;
      for (int row = 0; row < DEFINITION_ROWS; row++) {
        found += countIn(definitions[row], count, FIRST_REFERENCE + token);
      }
      return found;
    }

    private void replaceReferences(int token, int other) {
      for (int row = 0; row < DEFINITION_ROWS; row++) {
        System.arraycopy(definitions[row], 0, definitionsBefore[row], 0, MOST_TOKENS);
        replaceIn(definitions[row], count, FIRST_REFERENCE + token, FIRST_REFERENCE + other);
      }
    }

    private void undoReplacing() {
      for (int row = 0; row < DEFINITION_ROWS; row++) {
        System.arraycopy(definitionsBefore[row], 0, definitions[row], 0, MOST_TOKENS);
      }
    }
  }

  /** The components, with their tokens, their slots and the regions that come of these. */
  private static final class Components {
    // A row of tokens: front, back, size, then the own fronts of the variants from 1 on, or NONE.
    private static final int BEFORE_OWN_FRONTS = PARTS - 1;
    private static final int PLACES = PARTS + VARIANTS - 1;

    private int count;
    private final int[][] tokensOf;
    private final int[][] tokensBefore;
    private final int[][] slots;
    private final int[] regionCounts;
    private final int[] countsOnTrial;
    // For each region of a component, in order, the component whose own region it is.
    private final int[][] regionOwners;

    private Components() {
      tokensOf = new int[MOST_COMPONENTS][PLACES];
      tokensBefore = new int[MOST_COMPONENTS][PLACES];
      slots = new int[MOST_COMPONENTS][SLOTS];
      regionCounts = new int[MOST_COMPONENTS];
      countsOnTrial = new int[MOST_COMPONENTS];
      regionOwners = new int[MOST_COMPONENTS][MOST_REGIONS_OF_COMPONENT];
      for (int c = 0; c < MOST_COMPONENTS; c++) {
        Arrays.fill(tokensOf[c], NONE);
        Arrays.fill(slots[c], NONE);
      }
    }

    private int append(int front, int back, int size) {
      int component = count;
      tokensOf[component][FRONT] = front;
      tokensOf[component][BACK] = back;
      tokensOf[component][SIZE] = size;
      count++;
      listRegions();
      return component;
    }

    private int putOwnFront(int component, int variant, int front) {
      int before = tokensOf[component][BEFORE_OWN_FRONTS + variant];
      tokensOf[component][BEFORE_OWN_FRONTS + variant] = front;
      return before;
    }

    private int frontOf(int component, int variant) {
      if (variant > 0 && tokensOf[component][BEFORE_OWN_FRONTS + variant] != NONE) {
        return tokensOf[component][BEFORE_OWN_FRONTS + variant];
      }
      return tokensOf[component][FRONT];
    }

    /** Whether no component would have too many regions if the slot held the inner one. */
    private boolean haveRoomFor(int component, int slot, int inner) {
      for (int c = 0; c < count; c++) {
        countsOnTrial[c] = 1;
        for (int s = 0; s < SLOTS; s++) {
          int held = c == component && s == slot ? inner : slots[c][s];
          countsOnTrial[c] += held == NONE ? 0 : countsOnTrial[held];
        }
        if (countsOnTrial[c] > MOST_REGIONS_OF_COMPONENT) {
          return false;
        }
      }
      return true;
    }

    private int putInner(int component, int slot, int inner) {
      int before = slots[component][slot];
      slots[component][slot] = inner;
      listRegions();
      return before;
    }

    /** Goes upwards by number, as a slot holds a lower one, whose regions are then listed. */
    private void listRegions() {
      for (int c = 0; c < count; c++) {
        regionOwners[c][0] = c;
        regionCounts[c] = 1;
        for (int s = 0; s < SLOTS; s++) {
          if (slots[c][s] != NONE) {
            appendRegions(c, slots[c][s]);
          }
        }
      }
    }

    private void appendRegions(int component, int inner) {
      int length = regionCounts[inner];
      System.arraycopy(
          regionOwners[inner], 0, regionOwners[component], regionCounts[component], length);
      regionCounts[component] += length;
    }

    private int countTokens(int token) {
      int found = 0;
      for (int c = 0; c < count; c++) {
        found += countIn(tokensOf[c], PLACES, token);
      }
      return found;
    }

    private void replaceTokens(int token, int other) {
      for (int c = 0; c < count; c++) {
        System.arraycopy(tokensOf[c], 0, tokensBefore[c], 0, PLACES);
        replaceIn(tokensOf[c], PLACES, token, other);
      }
    }

    private void undoReplacing() {
      for (int c = 0; c < count; c++) {
        System.arraycopy(tokensBefore[c], 0, tokensOf[c], 0, PLACES);
      }
    }
  }

  /** A page, with the values that it keeps and the views that it shows once it is published. */
  private static final class Page {
    private int useCount;
    private final int[] usedComponents;
    private final int[] usedVariants;
    private int overrideCount;
    private final int[] overrides;
    private int regionCount;
    private final int[] regionTokens;
    private final int[][] keptValues;
    private boolean isPublished;
    private int shownThemes;
    private final View[] shownViews;

    private Page() {
      usedComponents = new int[MOST_USES];
      usedVariants = new int[MOST_USES];
      overrides = new int[MOST_TOKENS];
      regionTokens = new int[MOST_REGIONS_OF_PAGE * PARTS];
      keptValues = new int[MOST_THEMES][MOST_TOKENS];
      shownViews = new View[MOST_THEMES];
      Arrays.fill(overrides, NONE);
      for (int t = 0; t < MOST_THEMES; t++) {
        Arrays.fill(keptValues[t], NONE);
        shownViews[t] = new View();
      }
    }

    private void appendUse(int component, int variant) {
      usedComponents[useCount] = component;
      usedVariants[useCount] = variant;
      useCount++;
    }

    private void putOverride(int token, int value) {
      if (overrides[token] == NONE) {
        overrideCount++;
      }
      if (value == NONE) {
        overrideCount--;
      }
      overrides[token] = value;
    }

    private void layOut(Components components) {
      regionCount = 0;
      for (int u = 0; u < useCount; u++) {
        int used = usedComponents[u];
        for (int r = 0; r < components.regionCounts[used]; r++) {
          // The variant of a use is that of its first region alone; inner ones have variant 0.
          appendRegion(components, components.regionOwners[used][r], r == 0 ? usedVariants[u] : 0);
        }
      }
    }

    private void appendRegion(Components components, int owner, int variant) {
      int first = regionCount * PARTS;
      regionTokens[first + FRONT] = components.frontOf(owner, variant);
      regionTokens[first + BACK] = components.tokensOf[owner][BACK];
      regionTokens[first + SIZE] = components.tokensOf[owner][SIZE];
      regionCount++;
    }

    private int keptValue(Tokens tokens, int theme, int token) {
      if (keptValues[theme][token] == NONE) {
        keptValues[theme][token] = tokens.find(theme, token, overrides);
      }
      return keptValues[theme][token];
    }

    private void forgetValues() {
      for (int t = 0; t < MOST_THEMES; t++) {
        Arrays.fill(keptValues[t], NONE);
      }
    }

    private void fillView(View view, Tokens tokens, int theme) {
      view.regionCount = regionCount;
      for (int k = 0; k < regionCount * PARTS; k++) {
        view.values[k] = keptValue(tokens, theme, regionTokens[k]);
      }
    }
  }

  /** The values of all regions of a page in one theme. */
  private static final class View {
    private int regionCount;
    private final int[] values;

    private View() {
      values = new int[MOST_REGIONS_OF_PAGE * PARTS];
    }

    private int partOf(int region, int part) {
      return values[region * PARTS + part];
    }

    private int contrastOf(int region) {
      return Math.abs(partOf(region, FRONT) - partOf(region, BACK));
    }

    private int sumOfContrasts() {
      int sum = 0;
      for (int r = 0; r < regionCount; r++) {
        sum += contrastOf(r);
      }
      return sum;
    }

    private void copyFrom(View other) {
      regionCount = other.regionCount;
      System.arraycopy(other.values, 0, values, 0, regionCount * PARTS);
    }

    /** Regions that only one of the two views has count as differences. */
    private int countDifferences(View other) {
      int common = Math.min(regionCount, other.regionCount);
      int found = Math.max(regionCount, other.regionCount) - common;
      for (int r = 0; r < common; r++) {
        if (isOther(other, r)) {
          found++;
        }
      }
      return found;
    }

    private boolean isOther(View other, int region) {
      for (int part = 0; part < PARTS; part++) {
        if (partOf(region, part) != other.partOf(region, part)) {
          return true;
        }
      }
      return false;
    }
  }

  /** What was seen of a page in a theme at one time. */
  private static final class Snapshot {
    private int theme;
    private int page;
    private final View view;

    private Snapshot() {
      view = new View();
    }
  }

  /** The limits of the checks. */
  private static final class Limits {
    private int contrast;
    private int smallest;
    private int greatest;

    private Limits() {
      contrast = 30;
      smallest = 8;
      greatest = 72;
    }

    private boolean failsByContrast(View view, int region) {
      return view.contrastOf(region) < contrast;
    }

    private boolean failsBySize(View view, int region) {
      int size = view.partOf(region, SIZE);
      return size < smallest || size > greatest;
    }

    private char verdict(View view, int region) {
      boolean byContrast = failsByContrast(view, region);
      boolean bySize = failsBySize(view, region);
      if (byContrast) {
        return bySize ? 'b' : 'c';
      }
      return bySize ? 's' : '-';
    }

    private int countFailures(View view) {
      int found = 0;
      for (int r = 0; r < view.regionCount; r++) {
        found += failsByContrast(view, r) ? 1 : 0;
        found += failsBySize(view, r) ? 1 : 0;
      }
      return found;
    }
  }
}
