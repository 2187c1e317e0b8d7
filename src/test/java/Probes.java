import java.util.ArrayList;
import java.util.List;
import java.util.function.Consumer;
import java.util.function.Function;
import java.util.function.Supplier;

/**
 * Tells two libraries apart by everything that the calls can show of them: first by all questions,
 * then by changes whose answers or whose effects show what no question asks for (own definitions,
 * own fronts, slots, overrides, successors, layers, limits and how much room is left).
 */
final class Probes {
  // With what a sample takes to be made, a run stays within the 512 calls that are promised.
  private static final int MOST_CALLS = 400;
  private static final int TOKENS = 12;
  private static final int THEMES = 3;
  private static final int COMPONENTS = 8;
  private static final int PAGES = 4;
  private static final int REGIONS = 24;
  private static final int PARTS = 3;
  private static final int SNAPSHOTS = 8;

  private static final List<List<Probe>> RUNS = makeRuns();

  private Probes() {}

  private record Probe(String name, Function<Patternroom, Object> call) {}

  /** Makes both libraries anew for each run of probes, as a run may change them. */
  static void same(Supplier<Patternroom> due, Supplier<Patternroom> got) {
    for (List<Probe> run : RUNS) {
      compare(run, due.get(), got.get());
    }
  }

  /** Whether the call changes nothing that can be shown, whatever it answers or throws. */
  static void changesNothing(Supplier<Patternroom> recipe, Consumer<Patternroom> call) {
    same(recipe, () -> {
      Patternroom room = recipe.get();
      Testing.outcome(() -> {
        call.accept(room);
        return "";
      });
      return room;
    });
  }

  private static void compare(List<Probe> run, Patternroom due, Patternroom got) {
    for (Probe probe : run) {
      Object wanted = Testing.outcome(() -> probe.call.apply(due));
      Object answered = Testing.outcome(() -> probe.call.apply(got));
      if (!wanted.equals(answered)) {
        throw new AssertionError(probe.name + " is " + answered + ", due is " + wanted);
      }
    }
  }

  private static List<List<Probe>> makeRuns() {
    List<Probe> questions = new ArrayList<>();
    askOfAll(questions);
    for (int page = 0; page < PAGES; page++) {
      askOfPage(questions, page);
    }
    List<List<Probe>> runs = new ArrayList<>();
    for (int first = 0; first < questions.size(); first += MOST_CALLS) {
      runs.add(questions.subList(first, Math.min(first + MOST_CALLS, questions.size())));
    }
    runs.add(endings());
    runs.add(layers());
    runs.add(deprecations());
    runs.add(checkedValues(1));
    runs.add(checkedValues(2));
    runs.add(additions());
    return runs;
  }

  private static void add(List<Probe> run, String name, Function<Patternroom, Object> call) {
    run.add(new Probe(name, call));
  }

  private static void askOfAll(List<Probe> run) {
    add(run, "paintings", room -> room.paintings());
    add(run, "passShare", room -> room.passShare());
    add(run, "isSound", room -> room.isSound());
    for (int t = 0; t < TOKENS; t++) {
      int token = t;
      add(run, "uses " + token, room -> room.uses(token));
      for (int k = 0; k < THEMES; k++) {
        int theme = k;
        add(run, "value " + theme + " " + token, room -> room.value(theme, token));
      }
    }
    for (int n = 0; n < COMPONENTS; n++) {
      int component = n;
      add(run, "regionsOf " + component, room -> room.regionsOf(component));
    }
    for (int n = 0; n < SNAPSHOTS; n++) {
      int snapshot = n;
      add(run, "differing " + snapshot, room -> room.differing(snapshot));
    }
  }

  private static void askOfPage(List<Probe> run, int page) {
    add(run, "regions " + page, room -> room.regions(page));
    add(run, "passes " + page, room -> room.passes(page));
    add(run, "isStale " + page, room -> room.isStale(page));
    for (int k = 0; k < THEMES; k++) {
      int theme = k;
      String place = theme + " " + page;
      add(run, "failures " + place, room -> room.failures(theme, page));
      add(run, "meanContrast " + place, room -> room.meanContrast(theme, page));
      for (int n = 0; n < TOKENS; n++) {
        int token = n;
        add(run, "valueIn " + place + " " + n, room -> room.valueIn(theme, page, token));
        add(run, "valueAnew " + place + " " + n, room -> room.valueAnew(theme, page, token));
      }
      for (int n = 0; n < REGIONS; n++) {
        askOfRegion(run, theme, page, n);
      }
    }
  }

  private static void askOfRegion(List<Probe> run, int theme, int page, int region) {
    String place = theme + " " + page + " " + region;
    add(run, "failure " + place, room -> room.failure(theme, page, region));
    for (int n = 0; n < PARTS; n++) {
      int part = n;
      add(run, "shown " + place + " " + n, room -> room.shown(page, theme, region, part));
    }
  }

  /** Ends and empties all that can be ended or emptied. */
  private static List<Probe> endings() {
    List<Probe> run = new ArrayList<>();
    for (int c = 0; c < COMPONENTS; c++) {
      for (int k = 0; k < 3; k++) {
        int component = c;
        int place = k;
        add(run, "setVariant " + c + " " + k, room -> room.setVariant(component, place, -1));
        add(run, "setSlot " + c + " " + k, room -> room.setSlot(component, place, -1));
      }
    }
    for (int t = 0; t < TOKENS; t++) {
      int token = t;
      for (int k = 0; k < THEMES; k++) {
        int theme = k;
        add(run, "drop " + k + " " + t, room -> room.drop(theme, token));
      }
      for (int p = 0; p < PAGES; p++) {
        int page = p;
        add(run, "end of override " + p + " " + t, room -> room.override(page, token, -1));
      }
    }
    askOfAll(run);
    return run;
  }

  private static List<Probe> layers() {
    List<Probe> run = new ArrayList<>();
    for (int t = 0; t < TOKENS; t++) {
      for (int n = 0; n < TOKENS; n++) {
        int token = t;
        int other = n;
        add(run, "setReference " + t + " " + n, room -> room.setReference(-1, token, other));
        add(run, "value " + t, room -> room.value(0, token));
      }
    }
    return run;
  }

  /** Without limits, so that the moves go through and show the successors. */
  private static List<Probe> deprecations() {
    List<Probe> run = new ArrayList<>();
    add(run, "setLimits", room -> room.setLimits(0, 0, 99));
    for (int t = 0; t < TOKENS; t++) {
      int token = t;
      add(run, "move " + t, room -> room.move(token));
      for (int n = 0; n < TOKENS; n++) {
        int other = n;
        add(run, "uses " + n, room -> room.uses(other));
      }
    }
    for (int t = 0; t < TOKENS; t++) {
      for (int n = 0; n < TOKENS; n++) {
        int token = t;
        int other = n;
        add(run, "deprecate " + t + " " + n, room -> room.deprecate(token, other));
      }
    }
    return run;
  }

  /** Leads the token through all values; where it is a back or a size, this shows the limits. */
  private static List<Probe> checkedValues(int token) {
    List<Probe> run = new ArrayList<>();
    for (int n = 0; n < 100; n++) {
      int value = n;
      add(run, "setValue " + token + " " + n, room -> room.setValue(-1, token, value));
      add(run, "failures", room -> room.failures(0, 0));
    }
    add(run, "paintings", room -> room.paintings());
    return run;
  }

  private static List<Probe> additions() {
    List<Probe> run = new ArrayList<>();
    for (int p = 0; p < PAGES; p++) {
      int page = p;
      add(run, "publish " + p, room -> room.publish(page));
      add(run, "addUse " + p, room -> room.addUse(page, 0, 0));
      for (int t = 0; t < TOKENS; t++) {
        int token = t;
        add(run, "override " + p + " " + t, room -> room.override(page, token, 40));
      }
    }
    add(run, "snapshot", room -> room.snapshot(0, 0));
    add(run, "addToken", room -> room.addToken(0, 0));
    add(run, "addComponent", room -> room.addComponent(0, 0, 0));
    add(run, "addPage", room -> room.addPage());
    add(run, "addTheme", room -> room.addTheme());
    askOfAll(run);
    return run;
  }
}
