import java.util.Arrays;

/** A light desk; ../shared/DOC.md says what every method promises. */
public final class LightDesk {
  /** No level, no channel. */
  public static final int NONE = -1;

  private static final int CHANNELS = 12;
  private static final int TOP_LEVEL = 100;
  private static final int LAMPS = 20;
  private static final int TOP_POWER = 20;
  private static final int TOP_GEL = 7;
  private static final int NIGHTS = 4;
  private static final int LISTS = 2;
  private static final int CUES = 10;
  private static final int TOP_TENTHS = 100;
  private static final int TOP_PASS = 1000;
  private static final int UNDOS = 20;

  private static final int SWAPPED = 0;
  private static final int HUNG = 1;
  private static final int LEVELLED = 2;

  private final Rigs rigs = new Rigs();
  private final CueList list0 = new CueList();
  private final CueList list1 = new CueList();
  private final History history = new History();
  private final boolean[] latestCounts = new boolean[CHANNELS];
  private final int[] latestList = new int[CHANNELS];
  private int presentNight;

  public LightDesk() {
  }

  // ---- the rig

  public int addLamp(int power, int gel) throws IllegalArgumentException, IllegalStateException {
    needLampKind(power, gel);
    if (rigs.isFull()) {
      throw new IllegalStateException("there are 20 lamps");
    }
    return rigs.add(power, gel);
  }

  public void swap(int lamp, int power, int gel)
      throws IndexOutOfBoundsException, IllegalArgumentException {
    needLamp(lamp);
    needLampKind(power, gel);
    history.note(SWAPPED, lamp, rigs.powerOf(lamp), rigs.gelOf(lamp), 0);
    rigs.setKind(lamp, power, gel);
  }

  public int hang(int night, int lamp, int channel)
      throws IndexOutOfBoundsException, IllegalArgumentException {
    needLamp(lamp);
    needNight(night);
    needChannelOrNone(channel);
    int before = rigs.channelOf(night, lamp);
    history.note(HUNG, night, lamp, before, 0);
    rigs.setChannel(night, lamp, channel);
    return before;
  }

  public int setNight(int night) throws IllegalArgumentException {
    needNight(night);
    int before = presentNight;
    presentNight = night;
    return before;
  }

  public boolean setLatest(int channel, boolean latest) throws IllegalArgumentException {
    needChannel(channel);
    boolean before = latestCounts[channel];
    latestCounts[channel] = latest;
    return before;
  }

  // ---- cues

  public int addCue(int list, int delay, int fade, boolean follows)
      throws IllegalArgumentException, IllegalStateException {
    needList(list);
    needTenths(delay);
    needTenths(fade);
    CueList cues = cuesOf(list);
    if (cues.isFull()) {
      throw new IllegalStateException("the list has 10 cues");
    }
    return cues.add(delay, fade, follows);
  }

  public int setLevel(int list, int cue, int channel, int level)
      throws IllegalArgumentException, IndexOutOfBoundsException {
    needList(list);
    needChannel(channel);
    needLevelOrNone(level);
    needCue(list, cue);
    CueList cues = cuesOf(list);
    int before = cues.told(cue, channel);
    history.note(LEVELLED, list, cue, channel, before);
    cues.tell(cue, channel, level);
    return before;
  }

  public int undo() throws IllegalStateException {
    if (history.isEmpty()) {
      throw new IllegalStateException("nothing can be undone");
    }
    takeBackLast();
    history.dropLast();
    return history.size();
  }

  public int go(int list, int cue) throws IllegalArgumentException, IndexOutOfBoundsException {
    needList(list);
    needCue(list, cue);
    int channels = cuesOf(list).countTold(cue);
    beginFrom(list, cue);
    return channels;
  }

  public int pass(int tenths) throws IllegalArgumentException {
    if (tenths < 1 || tenths > TOP_PASS) {
      throw new IllegalArgumentException("1 to 1000 tenths can pass");
    }
    int begun = 0;
    for (int i = 0; i < tenths; i++) {
      begun += passTenth(0);
      begun += passTenth(1);
    }
    return begun;
  }

  public int running(int list) throws IllegalArgumentException {
    needList(list);
    return cuesOf(list).begunLast();
  }

  // ---- levels and light

  public int level(int list, int channel) throws IllegalArgumentException {
    needList(list);
    needChannel(channel);
    return cuesOf(list).levelNow(channel);
  }

  public int merged(int channel) throws IllegalArgumentException {
    needChannel(channel);
    return mergedNow(channel);
  }

  public int light(int channel) throws IllegalArgumentException {
    needChannel(channel);
    return rigs.shineOn(presentNight, channel, mergedNow(channel));
  }

  public int allLight() {
    int sum = 0;
    for (int channel = 0; channel < CHANNELS; channel++) {
      sum += rigs.shineOn(presentNight, channel, mergedNow(channel));
    }
    return sum;
  }

  public int preview(int list, int cue, int night)
      throws IllegalArgumentException, IndexOutOfBoundsException {
    needList(list);
    needNight(night);
    needCue(list, cue);
    CueList cues = cuesOf(list);
    int sum = 0;
    for (int channel = 0; channel < CHANNELS; channel++) {
      sum += rigs.shineOn(night, channel, cues.toldOrZero(cue, channel));
    }
    return sum;
  }

  public int touched(int lamp, int power, int gel, int night)
      throws IndexOutOfBoundsException, IllegalArgumentException {
    needLamp(lamp);
    needLampKind(power, gel);
    needNight(night);
    int channel = rigs.channelOf(night, lamp);
    if (channel == NONE) {
      return 0;
    }
    return countTouched(list0, lamp, power, gel, channel)
        + countTouched(list1, lamp, power, gel, channel);
  }

  // ---- what the calls share

  /** A preview is a sum over lamps, so it changes just if the share of this lamp does. */
  private int countTouched(CueList cues, int lamp, int power, int gel, int channel) {
    int count = 0;
    for (int cue = 0; cue < cues.size(); cue++) {
      int level = cues.toldOrZero(cue, channel);
      if (rigs.shine(lamp, level) != Rigs.shineOfKind(power, gel, level)) {
        count++;
      }
    }
    return count;
  }

  private int mergedNow(int channel) {
    int level0 = list0.levelNow(channel);
    int level1 = list1.levelNow(channel);
    if (isChannel(channel) && latestCounts[channel]) {
      return latestList[channel] == 0 ? level0 : level1;
    }
    return Math.max(level0, level1);
  }

  /** Begins a cue and all that follow at once; returns how many began. */
  private int beginFrom(int list, int cue) {
    CueList cues = cuesOf(list);
    int begun = 0;
    int next = cue;
    while (next != NONE && begun < CUES) {
      cues.begin(next);
      noteLatest(list, next);
      begun++;
      next = cues.isOver() ? cues.follower() : NONE;
    }
    return begun;
  }

  private void noteLatest(int list, int cue) {
    CueList cues = cuesOf(list);
    for (int channel = 0; channel < CHANNELS; channel++) {
      if (cues.told(cue, channel) != NONE) {
        latestList[channel] = list;
      }
    }
  }

  /** Lets a list go on by a tenth; returns how many cues began. */
  private int passTenth(int list) {
    CueList cues = cuesOf(list);
    return cues.endsInNextTenth() ? beginFrom(list, cues.follower()) : 0;
  }

  private void takeBackLast() {
    int a = history.lastPart(1);
    int b = history.lastPart(2);
    int c = history.lastPart(3);
    int d = history.lastPart(4);
    switch (history.lastPart(0)) {
      case SWAPPED:
        rigs.setKind(a, b, c);
        break;
      case HUNG:
        rigs.setChannel(a, b, c);
        break;
      default:
        cuesOf(a).tell(b, c, d);
        break;
    }
  }

  private CueList cuesOf(int list) {
    return list == 0 ? list0 : list1;
  }

  // ---- what the arguments must be

  private void needLamp(int lamp) throws IndexOutOfBoundsException {
    if (!rigs.has(lamp)) {
      throw new IndexOutOfBoundsException("there is no such lamp");
    }
  }

  private void needCue(int list, int cue) throws IndexOutOfBoundsException {
    if (!cuesOf(list).has(cue)) {
      throw new IndexOutOfBoundsException("there is no such cue");
    }
  }

  private static void needLampKind(int power, int gel) throws IllegalArgumentException {
    if (power < 1 || power > TOP_POWER) {
      throw new IllegalArgumentException("a power is 1 to 20");
    }
    if (gel < 0 || gel > TOP_GEL) {
      throw new IllegalArgumentException("a gel is 0 to 7");
    }
  }

  private static boolean isNight(int night) {
    return night >= 0 && night < NIGHTS;
  }

  private static boolean isChannel(int channel) {
    return channel >= 0 && channel < CHANNELS;
  }

  private static void needNight(int night) throws IllegalArgumentException {
    if (!isNight(night)) {
      throw new IllegalArgumentException("a night is 0 to 3");
    }
  }

  private static void needChannel(int channel) throws IllegalArgumentException {
    if (!isChannel(channel)) {
      throw new IllegalArgumentException("a channel is 0 to 11");
    }
  }

  private static void needChannelOrNone(int channel) throws IllegalArgumentException {
    if (channel != NONE) {
      needChannel(channel);
    }
  }

  private static void needList(int list) throws IllegalArgumentException {
    if (list < 0 || list >= LISTS) {
      throw new IllegalArgumentException("a list is 0 or 1");
    }
  }

  private static void needTenths(int tenths) throws IllegalArgumentException {
    if (tenths < 0 || tenths > TOP_TENTHS) {
      throw new IllegalArgumentException("a delay or fade is 0 to 100 tenths");
    }
  }

  private static void needLevelOrNone(int level) throws IllegalArgumentException {
    if (level != NONE && (level < 0 || level > TOP_LEVEL)) {
      throw new IllegalArgumentException("a level is 0 to 100, or NONE");
    }
  }

  /** The lamps, and where each hangs in each night. */
  private static final class Rigs {
    private final int[] powers = new int[LAMPS];
    private final int[] gels = new int[LAMPS];
    private final int[][] channels = new int[NIGHTS][LAMPS];
    private int lamps;

    Rigs() {
      for (int night = 0; night < NIGHTS; night++) {
        Arrays.fill(channels[night], NONE);
      }
    }

    boolean isFull() {
      return lamps >= LAMPS;
    }

    boolean has(int lamp) {
      return lamp >= 0 && lamp < lamps;
    }

    int add(int power, int gel) {
      int lamp = lamps;
      if (lamp < 0 || lamp >= LAMPS) {
        return NONE;
      }
      lamps++;
      setKind(lamp, power, gel);
      return lamp;
    }

    int powerOf(int lamp) {
      return has(lamp) ? powers[lamp] : 0;
    }

    int gelOf(int lamp) {
      return has(lamp) ? gels[lamp] : 0;
    }

    void setKind(int lamp, int power, int gel) {
      if (has(lamp)) {
        powers[lamp] = power;
        gels[lamp] = gel;
      }
    }

    int channelOf(int night, int lamp) {
      return isNight(night) && has(lamp) ? channels[night][lamp] : NONE;
    }

    void setChannel(int night, int lamp, int channel) {
      if (isNight(night) && has(lamp)) {
        channels[night][lamp] = channel;
      }
    }

    /** The light of a channel at a level in a night. */
    int shineOn(int night, int channel, int level) {
      int sum = 0;
      for (int lamp = 0; lamp < lamps; lamp++) {
        if (channelOf(night, lamp) == channel) {
          sum += shine(lamp, level);
        }
      }
      return sum;
    }

    int shine(int lamp, int level) {
      return shineOfKind(powerOf(lamp), gelOf(lamp), level);
    }

    static int shineOfKind(int power, int gel, int level) {
      return power * level * (100 - 5 * gel) / 100;
    }
  }

  /** A list of cues, the one that was begun last, and the levels it leads from and to. */
  private static final class CueList {
    private final int[] delays = new int[CUES];
    private final int[] fades = new int[CUES];
    private final boolean[] follow = new boolean[CUES];
    private final int[][] levels = new int[CUES][CHANNELS];
    private final int[] from = new int[CHANNELS];
    // A copy of the begun cue's levels, as setting a level leaves a running cue as it is.
    private final int[] to = new int[CHANNELS];
    private int cues;
    private int begun = NONE;
    // Tenths since the cue began; they stand still at its end.
    private int elapsed;

    CueList() {
      for (int cue = 0; cue < CUES; cue++) {
        Arrays.fill(levels[cue], NONE);
      }
    }

    int size() {
      return cues;
    }

    boolean isFull() {
      return cues >= CUES;
    }

    boolean has(int cue) {
      return cue >= 0 && cue < cues;
    }

    int add(int delay, int fade, boolean follows) {
      int cue = cues;
      if (cue < 0 || cue >= CUES) {
        return NONE;
      }
      cues++;
      delays[cue] = delay;
      fades[cue] = fade;
      follow[cue] = follows;
      return cue;
    }

    int told(int cue, int channel) {
      return has(cue) && isChannel(channel) ? levels[cue][channel] : NONE;
    }

    int toldOrZero(int cue, int channel) {
      return Math.max(0, told(cue, channel));
    }

    void tell(int cue, int channel, int level) {
      if (has(cue) && isChannel(channel)) {
        levels[cue][channel] = level;
      }
    }

    int countTold(int cue) {
      int count = 0;
      for (int channel = 0; channel < CHANNELS; channel++) {
        if (told(cue, channel) != NONE) {
          count++;
        }
      }
      return count;
    }

    int begunLast() {
      return begun;
    }

    void begin(int cue) {
      for (int channel = 0; channel < CHANNELS; channel++) {
        int now = levelNow(channel);
        int goal = told(cue, channel);
        from[channel] = now;
        to[channel] = goal == NONE ? now : goal;
      }
      begun = cue;
      elapsed = 0;
    }

    int levelNow(int channel) {
      if (!has(begun) || !isChannel(channel)) {
        return 0;
      }
      int fade = fades[begun];
      int faded = elapsed - delays[begun];
      if (faded < 0) {
        return from[channel];
      }
      if (fade <= 0 || faded >= fade) {
        return to[channel];
      }
      return from[channel] + (to[channel] - from[channel]) * faded / fade;
    }

    boolean isOver() {
      return !has(begun) || elapsed >= delays[begun] + fades[begun];
    }

    /** Goes on by a tenth; tells whether the begun cue ends in just this one. */
    boolean endsInNextTenth() {
      if (isOver()) {
        return false;
      }
      elapsed++;
      return isOver();
    }

    /** The cue behind the begun one if it follows, otherwise NONE. */
    int follower() {
      int next = begun + 1;
      return has(begun) && has(next) && follow[next] ? next : NONE;
    }
  }

  /** The last changes that can be undone, the oldest overwritten when there are too many. */
  private static final class History {
    private static final int PARTS = 5;
    // Each row: the kind, then what it takes to set the old state again.
    private final int[][] changes = new int[UNDOS][PARTS];
    private int next;
    private int size;

    boolean isEmpty() {
      return size <= 0;
    }

    int size() {
      return size;
    }

    void note(int kind, int a, int b, int c, int d) {
      put(0, kind);
      put(1, a);
      put(2, b);
      put(3, c);
      put(4, d);
      next = next + 1 < UNDOS ? next + 1 : 0;
      size = Math.min(size + 1, UNDOS);
    }

    /** A part of the last change, by its place in the call of note. */
    int lastPart(int part) {
      int last = lastRow();
      return isPlace(last, part) ? changes[last][part] : NONE;
    }

    void dropLast() {
      next = lastRow();
      size = Math.max(size - 1, 0);
    }

    private int lastRow() {
      return next > 0 ? next - 1 : UNDOS - 1;
    }

    private void put(int part, int value) {
      if (isPlace(next, part)) {
        changes[next][part] = value;
      }
    }

    private static boolean isPlace(int row, int part) {
      return row >= 0 && row < UNDOS && part >= 0 && part < PARTS;
    }
  }
}
