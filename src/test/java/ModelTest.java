/** Long runs of calls, answered by LightDesk as by PlainDesk; the runs are the same each time. */
public final class ModelTest {
  private static final int RUNS = 1500;
  private static final int CALLS = 512;
  private static final int[] FAR = {Integer.MIN_VALUE, -2, -1, 21, 101, 1001, Integer.MAX_VALUE};

  private final LightDesk desk = new LightDesk();
  private final PlainDesk plain = new PlainDesk();
  private long seed;
  /** One argument of so many is any number. */
  private final int strays;

  private ModelTest(long seed, int strays) {
    this.seed = seed;
    this.strays = strays;
  }

  public static void main(String[] args) {
    for (int run = 0; run < RUNS; run++) {
      new ModelTest(run, run % 3 == 0 ? 12 : 200).play(run);
    }
    Expect.end("ModelTest");
  }

  private void play(int run) {
    int style = run % 4;
    for (int call = 0; call < CALLS; call++) {
      step("run " + run + ", call " + call, call < 40 && style > 0 ? any(9) : any(24), style);
    }
  }

  /** A number from 0 to bound - 1. */
  private int any(int bound) {
    seed = seed * 6364136223846793005L + 1442695040888963407L;
    return (int) ((seed >>> 33) % bound);
  }

  private int arg(int from, int to) {
    return any(strays) == 0 ? FAR[any(FAR.length)] : from + any(to - from + 1);
  }

  private int tenths(int style) {
    return switch (style) {
      case 0 -> arg(0, 100);
      case 1 -> any(2) * any(4);
      default -> any(3) == 0 ? 0 : any(12);
    };
  }

  private void step(String where, int kind, int style) {
    int a = arg(0, 1);
    int cue = arg(0, 9);
    int channel = arg(0, 11);
    int lamp = arg(0, any(2) == 0 ? 19 : 5);
    int night = arg(0, 3);
    int power = arg(1, 20);
    int gel = arg(0, 7);
    int level = any(6) == 0 ? -1 : arg(0, 100);
    int place = any(8) == 0 ? -1 : channel;
    boolean yes = any(3) > 0;
    int wait = tenths(style);
    int fade = tenths(style);
    int passing = any(5) == 0 ? arg(1, 1000) : arg(1, 15);
    switch (kind) {
      case 0 -> both(where + " addLamp", () -> desk.addLamp(power, gel), () -> plain.addLamp(power, gel));
      case 1 -> both(where + " addCue", () -> desk.addCue(a, wait, fade, yes), () -> plain.addCue(a, wait, fade, yes));
      case 2, 3, 9 -> both(where + " hang", () -> desk.hang(night, lamp, place), () -> plain.hang(night, lamp, place));
      case 4, 5, 6, 10 -> both(where + " setLevel",
          () -> desk.setLevel(a, cue, channel, level), () -> plain.setLevel(a, cue, channel, level));
      case 7, 11 -> both(where + " go", () -> desk.go(a, cue), () -> plain.go(a, cue));
      case 8, 12 -> both(where + " pass", () -> desk.pass(passing), () -> plain.pass(passing));
      case 13 -> both(where + " swap", () -> swap(lamp, power, gel), () -> plainSwap(lamp, power, gel));
      case 14 -> both(where + " setNight", () -> desk.setNight(night), () -> plain.setNight(night));
      case 15 -> both(where + " setLatest",
          () -> desk.setLatest(channel, yes) ? 1 : 0, () -> plain.setLatest(channel, yes) ? 1 : 0);
      case 16, 17 -> both(where + " undo", desk::undo, plain::undo);
      case 18 -> both(where + " running", () -> desk.running(a), () -> plain.running(a));
      case 19 -> both(where + " level", () -> desk.level(a, channel), () -> plain.level(a, channel));
      case 20 -> both(where + " merged", () -> desk.merged(channel), () -> plain.merged(channel));
      case 21 -> both(where + " light", () -> desk.light(channel), () -> plain.light(channel));
      case 22 -> both(where + " preview", () -> desk.preview(a, cue, night), () -> plain.preview(a, cue, night));
      default -> last(where, lamp, power, gel, night);
    }
  }

  private void last(String where, int lamp, int power, int gel, int night) {
    if (any(2) == 0) {
      both(where + " allLight", desk::allLight, plain::allLight);
    } else {
      both(where + " touched",
          () -> desk.touched(lamp, power, gel, night), () -> plain.touched(lamp, power, gel, night));
    }
  }

  private int swap(int lamp, int power, int gel) {
    desk.swap(lamp, power, gel);
    return 0;
  }

  private int plainSwap(int lamp, int power, int gel) {
    plain.swap(lamp, power, gel);
    return 0;
  }

  private interface Call {
    int answer();
  }

  private static void both(String where, Call call, Call dueCall) {
    int[] got = {0, 0};
    Class<?> due = Expect.thrownBy(() -> got[1] = dueCall.answer());
    Expect.fails(where, due, () -> got[0] = call.answer());
    if (due == null) {
      Expect.same(where, got[0], got[1]);
    }
  }
}
