import java.util.ArrayList;
import java.util.HashMap;
import java.util.List;
import java.util.Map;
import java.util.NoSuchElementException;
import java.util.TreeMap;

/**
 * The document once more, in the plainest form and without kept values, for ModelTest to compare
 * with. Everything is found anew at each question.
 */
final class PlainLibrary {
  private record Definition(boolean isReference, int number) {}

  private record Use(int component, int variant) {}

  private record Region(int front, int back, int size) {}

  private record Snapshot(int theme, int page, List<List<Integer>> regions) {}

  private static final class Component {
    int front;
    int back;
    int size;
    final Map<Integer, Integer> ownFronts = new TreeMap<>();
    final Map<Integer, Integer> slots = new TreeMap<>();
  }

  private static final class Page {
    final List<Use> uses = new ArrayList<>();
    final Map<Integer, Integer> overrides = new HashMap<>();
    /** What it shows, theme by theme, or null if it is not published. */
    List<List<List<Integer>>> shown = null;
  }

  private final List<Integer> layers = new ArrayList<>();
  private final List<Definition> general = new ArrayList<>();
  private final List<Map<Integer, Definition>> themes = new ArrayList<>();
  private final Map<Integer, Integer> successors = new HashMap<>();
  private final List<Component> components = new ArrayList<>();
  private final List<Page> pages = new ArrayList<>();
  private final List<Snapshot> snapshots = new ArrayList<>();
  private int contrast = 30;
  private int smallest = 8;
  private int greatest = 72;
  private long paintings = 0;

  PlainLibrary() {
    themes.add(new HashMap<>());
  }

  private static void bounds(boolean isRight) {
    if (!isRight) throw new IndexOutOfBoundsException();
  }

  private static void argument(boolean isRight) {
    if (!isRight) throw new IllegalArgumentException();
  }

  private static void state(boolean isRight) {
    if (!isRight) throw new IllegalStateException();
  }

  private static void element(boolean isRight) {
    if (!isRight) throw new NoSuchElementException();
  }

  private static void supported(boolean isRight) {
    if (!isRight) throw new UnsupportedOperationException();
  }

  private static boolean in(int number, int least, int most) {
    return least <= number && number <= most;
  }

  private static boolean has(List<?> list, int number) {
    return in(number, 0, list.size() - 1);
  }

  private static boolean hasOrNone(List<?> list, int number) {
    return in(number, -1, list.size() - 1);
  }

  private int end() {
    int painted = 0;
    for (Page page : pages) {
      if (page.shown != null && passing(page)) {
        List<List<List<Integer>>> present = present(page);
        if (!present.equals(page.shown)) {
          page.shown = present;
          painted++;
        }
      }
    }
    paintings += painted;
    return painted;
  }

  private Definition definition(int theme, int token) {
    Definition own = themes.get(theme).get(token);
    return own != null ? own : general.get(token);
  }

  private int find(int theme, Map<Integer, Integer> overrides, int token) {
    if (overrides.containsKey(token)) return overrides.get(token);
    Definition found = definition(theme, token);
    return found.isReference ? find(theme, overrides, found.number) : found.number;
  }

  private List<Region> regions(int component, int variant) {
    Component used = components.get(component);
    List<Region> found = new ArrayList<>();
    found.add(new Region(used.ownFronts.getOrDefault(variant, used.front), used.back, used.size));
    for (int inner : used.slots.values()) found.addAll(regions(inner, 0));
    return found;
  }

  private List<List<Integer>> view(Page page, int theme) {
    List<List<Integer>> found = new ArrayList<>();
    for (Use use : page.uses) {
      for (Region region : regions(use.component, use.variant)) {
        found.add(List.of(find(theme, page.overrides, region.front),
            find(theme, page.overrides, region.back), find(theme, page.overrides, region.size)));
      }
    }
    return found;
  }

  private List<List<List<Integer>>> present(Page page) {
    List<List<List<Integer>>> found = new ArrayList<>();
    for (int theme = 0; theme < themes.size(); theme++) found.add(view(page, theme));
    return found;
  }

  private boolean failsByContrast(List<Integer> region) {
    return Math.abs(region.get(0) - region.get(1)) < contrast;
  }

  private boolean failsBySize(List<Integer> region) {
    return !in(region.get(2), smallest, greatest);
  }

  private boolean passing(Page page) {
    return present(page).stream()
        .allMatch(view -> view.stream().noneMatch(r -> failsByContrast(r) || failsBySize(r)));
  }

  private int countPassing() {
    return (int) pages.stream().filter(this::passing).count();
  }

  int addToken(int layer, int value) {
    argument(in(layer, 0, 2) && in(value, 0, 99));
    state(layers.size() < 12);
    layers.add(layer);
    general.add(new Definition(false, value));
    end();
    return layers.size() - 1;
  }

  int addTheme() {
    state(themes.size() < 3);
    themes.add(new HashMap<>());
    end();
    return themes.size() - 1;
  }

  private int define(int theme, int token, Definition definition) {
    if (theme == -1) general.set(token, definition);
    else themes.get(theme).put(token, definition);
    return end();
  }

  int setValue(int theme, int token, int value) {
    bounds(hasOrNone(themes, theme) && has(layers, token));
    argument(in(value, 0, 99));
    return define(theme, token, new Definition(false, value));
  }

  int setReference(int theme, int token, int other) {
    bounds(hasOrNone(themes, theme) && has(layers, token) && has(layers, other));
    argument(layers.get(other) < layers.get(token));
    return define(theme, token, new Definition(true, other));
  }

  int drop(int theme, int token) {
    bounds(has(themes, theme) && has(layers, token));
    element(themes.get(theme).containsKey(token));
    themes.get(theme).remove(token);
    return end();
  }

  int value(int theme, int token) {
    bounds(has(themes, theme) && has(layers, token));
    return find(theme, Map.of(), token);
  }

  int valueIn(int theme, int page, int token) {
    bounds(has(themes, theme) && has(pages, page) && has(layers, token));
    return find(theme, pages.get(page).overrides, token);
  }

  int valueAnew(int theme, int page, int token) {
    return valueIn(theme, page, token);
  }

  int addComponent(int front, int back, int size) {
    bounds(has(layers, front) && has(layers, back) && has(layers, size));
    state(components.size() < 8);
    Component added = new Component();
    added.front = front;
    added.back = back;
    added.size = size;
    components.add(added);
    end();
    return components.size() - 1;
  }

  private static int put(Map<Integer, Integer> map, int key, int number) {
    Integer before = number == -1 ? map.remove(key) : map.put(key, number);
    return before == null ? -1 : before;
  }

  int setVariant(int component, int variant, int front) {
    bounds(has(components, component) && hasOrNone(layers, front));
    argument(in(variant, 1, 2));
    int before = put(components.get(component).ownFronts, variant, front);
    end();
    return before;
  }

  int setSlot(int component, int slot, int inner) {
    bounds(has(components, component) && hasOrNone(components, inner));
    argument(in(slot, 0, 2) && inner < component);
    Map<Integer, Integer> slots = components.get(component).slots;
    int before = put(slots, slot, inner);
    for (int c = 0; c < components.size(); c++) {
      if (regions(c, 0).size() > 4) {
        put(slots, slot, before);
        throw new UnsupportedOperationException();
      }
    }
    end();
    return before;
  }

  int regionsOf(int component) {
    bounds(has(components, component));
    return regions(component, 0).size();
  }

  int addPage() {
    state(pages.size() < 4);
    pages.add(new Page());
    end();
    return pages.size() - 1;
  }

  int addUse(int page, int component, int variant) {
    bounds(has(pages, page) && has(components, component));
    argument(in(variant, 0, 2));
    List<Use> uses = pages.get(page).uses;
    state(uses.size() < 6);
    uses.add(new Use(component, variant));
    end();
    return uses.size();
  }

  int override(int page, int token, int value) {
    bounds(has(pages, page) && has(layers, token));
    argument(in(value, -1, 99));
    Map<Integer, Integer> overrides = pages.get(page).overrides;
    element(value != -1 || overrides.containsKey(token));
    state(overrides.containsKey(token) || overrides.size() < 3);
    put(overrides, token, value);
    end();
    return overrides.size();
  }

  int regions(int page) {
    bounds(has(pages, page));
    return view(pages.get(page), 0).size();
  }

  int setLimits(int newContrast, int newSmallest, int newGreatest) {
    argument(in(newContrast, 0, 99) && in(newSmallest, 0, 99) && in(newGreatest, newSmallest, 99));
    contrast = newContrast;
    smallest = newSmallest;
    greatest = newGreatest;
    end();
    return countPassing();
  }

  int failures(int theme, int page) {
    bounds(has(themes, theme) && has(pages, page));
    List<List<Integer>> view = view(pages.get(page), theme);
    return (int) (view.stream().filter(this::failsByContrast).count()
        + view.stream().filter(this::failsBySize).count());
  }

  char failure(int theme, int page, int region) {
    bounds(has(themes, theme) && has(pages, page));
    List<List<Integer>> view = view(pages.get(page), theme);
    element(has(view, region));
    int ways = (failsByContrast(view.get(region)) ? 1 : 0) + (failsBySize(view.get(region)) ? 2 : 0);
    return "-csb".charAt(ways);
  }

  boolean passes(int page) {
    bounds(has(pages, page));
    return passing(pages.get(page));
  }

  int publish(int page) {
    bounds(has(pages, page));
    state(pages.get(page).shown == null);
    supported(passing(pages.get(page)));
    pages.get(page).shown = present(pages.get(page));
    end();
    return (int) pages.stream().filter(each -> each.shown != null).count();
  }

  boolean isStale(int page) {
    bounds(has(pages, page));
    return pages.get(page).shown != null && !passing(pages.get(page));
  }

  int shown(int page, int theme, int region, int part) {
    bounds(has(pages, page));
    argument(in(part, 0, 2));
    List<List<List<Integer>>> shown = pages.get(page).shown;
    element(shown != null && has(shown, theme) && has(shown.get(theme), region));
    return shown.get(theme).get(region).get(part);
  }

  long paintings() {
    return paintings;
  }

  int snapshot(int theme, int page) {
    bounds(has(themes, theme) && has(pages, page));
    state(snapshots.size() < 8);
    snapshots.add(new Snapshot(theme, page, view(pages.get(page), theme)));
    return snapshots.size() - 1;
  }

  int differing(int number) {
    element(has(snapshots, number));
    Snapshot before = snapshots.get(number);
    List<List<Integer>> now = view(pages.get(before.page), before.theme);
    int found = 0;
    for (int r = 0; r < Math.max(now.size(), before.regions.size()); r++) {
      boolean isInBoth = has(now, r) && has(before.regions, r);
      if (!isInBoth || !now.get(r).equals(before.regions.get(r))) found++;
    }
    return found;
  }

  int deprecate(int token, int successor) {
    bounds(has(layers, token) && has(layers, successor));
    argument(token != successor && layers.get(successor) <= layers.get(token));
    state(!successors.containsKey(successor));
    successors.put(token, successor);
    return successors.size();
  }

  int uses(int token) {
    bounds(has(layers, token));
    return replace(token, token);
  }

  int move(int token) {
    bounds(has(layers, token));
    element(successors.containsKey(token));
    List<Boolean> before = pages.stream().map(this::passing).toList();
    Runnable undo = keep();
    int moved = replace(token, successors.get(token));
    for (int p = 0; p < pages.size(); p++) {
      if (before.get(p) && !passing(pages.get(p))) {
        undo.run();
        throw new UnsupportedOperationException();
      }
    }
    end();
    return moved;
  }

  private static int replaceDefinitions(Map<Integer, Definition> map, int token, int other) {
    int found = 0;
    for (Map.Entry<Integer, Definition> entry : map.entrySet()) {
      if (entry.getValue().equals(new Definition(true, token))) {
        entry.setValue(new Definition(true, other));
        found++;
      }
    }
    return found;
  }

  private int replace(int token, int other) {
    int found = 0;
    for (int t = 0; t < general.size(); t++) {
      if (general.get(t).equals(new Definition(true, token))) {
        general.set(t, new Definition(true, other));
        found++;
      }
    }
    for (Map<Integer, Definition> theme : themes) found += replaceDefinitions(theme, token, other);
    for (Component component : components) {
      if (component.front == token) {
        component.front = other;
        found++;
      }
      if (component.back == token) {
        component.back = other;
        found++;
      }
      if (component.size == token) {
        component.size = other;
        found++;
      }
      for (int variant : List.copyOf(component.ownFronts.keySet())) {
        if (component.ownFronts.get(variant) == token) {
          component.ownFronts.put(variant, other);
          found++;
        }
      }
    }
    return found;
  }

  private Runnable keep() {
    List<Definition> generalKept = List.copyOf(general);
    List<Map<Integer, Definition>> themesKept = themes.stream().map(Map::copyOf).toList();
    List<int[]> tokensKept =
        components.stream().map(c -> new int[] {c.front, c.back, c.size}).toList();
    List<Map<Integer, Integer>> frontsKept =
        components.stream().map(c -> Map.copyOf(c.ownFronts)).toList();
    return () -> {
      for (int t = 0; t < general.size(); t++) general.set(t, generalKept.get(t));
      for (int t = 0; t < themes.size(); t++) themes.get(t).putAll(themesKept.get(t));
      for (int c = 0; c < components.size(); c++) {
        components.get(c).front = tokensKept.get(c)[0];
        components.get(c).back = tokensKept.get(c)[1];
        components.get(c).size = tokensKept.get(c)[2];
        components.get(c).ownFronts.putAll(frontsKept.get(c));
      }
    };
  }

  float passShare() {
    if (pages.isEmpty()) throw new ArithmeticException();
    return (float) countPassing() / (float) pages.size();
  }

  double meanContrast(int theme, int page) {
    bounds(has(themes, theme) && has(pages, page));
    List<List<Integer>> view = view(pages.get(page), theme);
    if (view.isEmpty()) throw new ArithmeticException();
    int sum = view.stream().mapToInt(r -> Math.abs(r.get(0) - r.get(1))).sum();
    return (double) sum / (double) view.size();
  }

  boolean isSound() {
    return true;
  }
}
