import java.util.ArrayList;
import java.util.List;

/**
 * Every argument of every call at the last value that is allowed and at the first that is not, each with each:
 * "A method that throws an exception changes nothing. If several exceptions apply, the one that is documented first
 * is thrown." The ranges stand here as the document writes them. What only tells something changes nothing either.
 */
public final class RefusalTest {
  private static final Class<?> ARGUMENT = Expect.ARGUMENT;
  private static final Class<?> INDEX = Expect.INDEX;
  private static final Class<?> STATE = Expect.STATE;
  private static final int THROWN = -1000;

  /** An argument's range, and the exception that tells that it is left. */
  private record Range(int from, int to, Class<?> thrown) {
    boolean has(int value) {
      return from <= value && value <= to;
    }
  }

  private interface Call {
    int on(LightDesk desk, int[] a);
  }

  /** What: a promise's number and name; first: the exception that is documented first. */
  private record Method(String what, Class<?> first, Call call, Range... ranges) {
    /** The promises from running() on only tell something. */
    boolean looks() {
      return Integer.parseInt(what.substring(0, what.indexOf(' '))) >= 12;
    }
  }

  private static final Range POWER = new Range(1, 20, ARGUMENT);
  private static final Range GEL = new Range(0, 7, ARGUMENT);
  private static final Range NIGHT = new Range(0, 3, ARGUMENT);
  private static final Range CHANNEL = new Range(0, 11, ARGUMENT);
  private static final Range CHANNEL_OR_NONE = new Range(-1, 11, ARGUMENT);
  private static final Range LEVEL_OR_NONE = new Range(-1, 100, ARGUMENT);
  private static final Range LIST = new Range(0, 1, ARGUMENT);
  private static final Range TENTHS = new Range(0, 100, ARGUMENT);
  private static final Range PASSING = new Range(1, 1000, ARGUMENT);

  private final Scene scene;
  private final List<Integer> untouched;

  private RefusalTest(Scene scene) {
    this.scene = scene;
    this.untouched = story(scene.desk());
  }

  public static void main(String[] args) {
    for (Scene scene : Scene.values()) {
      new RefusalTest(scene).everyCall();
    }
    Expect.end("RefusalTest");
  }

  /** Desks with nothing, with something, and with all that they can hold. */
  private enum Scene {
    EMPTY(0, 0), SOME(3, 2), FULL(20, 10);

    final int lamps;
    final int cues;

    Scene(int lamps, int cues) {
      this.lamps = lamps;
      this.cues = cues;
    }

    LightDesk desk() {
      LightDesk desk = new LightDesk();
      for (int lamp = 0; lamp < lamps; lamp++) {
        desk.addLamp(20 - lamp, lamp % 8);
        desk.hang(lamp % 4, lamp, lamp % 12);
      }
      for (int cue = 0; cue < cues; cue++) {
        desk.addCue(0, cue, 5, true);
        desk.addCue(1, 3, cue, true);
        desk.setLevel(0, cue, cue, 90 - cue);
        desk.setLevel(1, cue, 11 - cue, cue * 11);
      }
      if (cues > 0) {
        start(desk);
      }
      return desk;
    }

    /** Both lists are within a fade, and what can be set is set. */
    private static void start(LightDesk desk) {
      desk.swap(1, 7, 5);
      desk.setNight(2);
      desk.setLatest(0, true);
      desk.setLatest(11, true);
      desk.go(1, 1);
      desk.go(0, 0);
      desk.pass(3);
    }
  }

  private void everyCall() {
    Range lamp = new Range(0, scene.lamps - 1, INDEX);
    Range cue = new Range(0, scene.cues - 1, INDEX);
    rig(lamp);
    cues(cue);
    levels(lamp, cue);
  }

  private void rig(Range lamp) {
    each(new Method("2 addLamp", ARGUMENT, (d, a) -> d.addLamp(a[0], a[1]), POWER, GEL), scene.lamps == 20);
    each(new Method("3 swap", INDEX, RefusalTest::swap, lamp, POWER, GEL), false);
    each(new Method("4 hang", INDEX, (d, a) -> d.hang(a[0], a[1], a[2]), NIGHT, lamp, CHANNEL_OR_NONE), false);
    each(new Method("5 setNight", ARGUMENT, (d, a) -> d.setNight(a[0]), NIGHT), false);
    each(new Method("6 setLatest", ARGUMENT, (d, a) -> d.setLatest(a[0], a[1] == 1) ? 1 : 0, CHANNEL, yesOrNo()),
        false);
  }

  private void cues(Range cue) {
    each(new Method("7 addCue", ARGUMENT, (d, a) -> d.addCue(a[0], a[1], a[2], a[3] == 1),
        LIST, TENTHS, TENTHS, yesOrNo()), scene.cues == 10);
    each(new Method("8 setLevel", ARGUMENT, (d, a) -> d.setLevel(a[0], a[1], a[2], a[3]),
        LIST, cue, CHANNEL, LEVEL_OR_NONE), false);
    each(new Method("9 undo", STATE, (d, a) -> d.undo()), scene == Scene.EMPTY);
    each(new Method("10 go", ARGUMENT, (d, a) -> d.go(a[0], a[1]), LIST, cue), false);
    each(new Method("11 pass", ARGUMENT, (d, a) -> d.pass(a[0]), PASSING), false);
    each(new Method("12 running", ARGUMENT, (d, a) -> d.running(a[0]), LIST), false);
  }

  private void levels(Range lamp, Range cue) {
    each(new Method("13 level", ARGUMENT, (d, a) -> d.level(a[0], a[1]), LIST, CHANNEL), false);
    each(new Method("14 merged", ARGUMENT, (d, a) -> d.merged(a[0]), CHANNEL), false);
    each(new Method("15 light", ARGUMENT, (d, a) -> d.light(a[0]), CHANNEL), false);
    each(new Method("16 allLight", ARGUMENT, (d, a) -> d.allLight()), false);
    each(new Method("17 preview", ARGUMENT, (d, a) -> d.preview(a[0], a[1], a[2]), LIST, cue, NIGHT), false);
    each(new Method("18 touched", INDEX, (d, a) -> d.touched(a[0], a[1], a[2], a[3]), lamp, POWER, GEL, NIGHT),
        false);
  }

  /** For a boolean: no value of it is wrong. */
  private static Range yesOrNo() {
    return new Range(Integer.MIN_VALUE, Integer.MAX_VALUE, ARGUMENT);
  }

  private static int swap(LightDesk desk, int[] a) {
    desk.swap(a[0], a[1], a[2]);
    return 0;
  }

  /** Calls a method with its arguments' edges, each with each. */
  private void each(Method method, boolean noRoom) {
    each(method, noRoom, new int[method.ranges.length], 0);
  }

  private void each(Method method, boolean noRoom, int[] args, int at) {
    if (at == args.length) {
      check(method, noRoom, args);
      return;
    }
    Range range = method.ranges[at];
    int[] edges = {range.from - 1, range.from, range.to, range.to + 1, Integer.MIN_VALUE, Integer.MAX_VALUE};
    for (int edge : edges) {
      args[at] = edge;
      each(method, noRoom, args, at + 1);
    }
  }

  private void check(Method method, boolean noRoom, int[] args) {
    String where = scene + " " + method.what + java.util.Arrays.toString(args);
    LightDesk desk = scene.desk();
    Class<?> due = due(method, noRoom, args);
    Expect.fails(where, due, () -> method.call.on(desk, args));
    if (due != null || method.looks()) {
      Expect.same(where + " changes nothing", story(desk).equals(untouched), true);
    }
  }

  private static Class<?> due(Method method, boolean noRoom, int[] args) {
    Class<?> later = noRoom ? STATE : null;
    for (int i = 0; i < args.length; i++) {
      Range range = method.ranges[i];
      if (!range.has(args[i])) {
        if (range.thrown == method.first) {
          return method.first;
        }
        later = range.thrown;
      }
    }
    return later;
  }

  /** All that a desk tells of itself, at first by looking, then by changing it; at most 300 calls. */
  private static List<Integer> story(LightDesk desk) {
    List<Integer> told = new ArrayList<>();
    look(desk, told);
    for (int cue = 0; cue < 10; cue++) {
      int c = cue;
      for (int night = 0; night < 4; night++) {
        int n = night;
        tell(told, () -> desk.preview(0, c, n));
      }
      tell(told, () -> desk.preview(1, c, 1));
    }
    tell(told, () -> desk.pass(2));
    look(desk, told);
    for (int i = 0; i < 21; i++) {
      tell(told, desk::undo);
    }
    for (int lamp = 0; lamp < 20; lamp++) {
      int l = lamp;
      for (int night = 0; night < 4; night++) {
        int n = night;
        tell(told, () -> desk.hang(n, l, 0));
      }
    }
    change(desk, told);
    return told;
  }

  private static void look(LightDesk desk, List<Integer> told) {
    for (int channel = 0; channel < 12; channel++) {
      told.add(desk.level(0, channel));
      told.add(desk.level(1, channel));
      told.add(desk.merged(channel));
    }
    told.add(desk.running(0));
    told.add(desk.running(1));
    told.add(desk.allLight());
  }

  private static void change(LightDesk desk, List<Integer> told) {
    told.add(desk.setNight(0));
    told.add(desk.allLight());
    for (int channel = 0; channel < 12; channel++) {
      told.add(desk.setLatest(channel, false) ? 1 : 0);
    }
    tell(told, () -> desk.addLamp(1, 0));
    tell(told, () -> desk.addCue(0, 0, 0, true));
    tell(told, () -> desk.addCue(1, 0, 0, true));
    told.add(desk.pass(1000));
    told.add(desk.running(0));
    told.add(desk.running(1));
  }

  private static void tell(List<Integer> told, java.util.function.IntSupplier call) {
    int at = told.size();
    told.add(THROWN);
    Expect.thrownBy(() -> told.set(at, call.getAsInt()));
  }
}
