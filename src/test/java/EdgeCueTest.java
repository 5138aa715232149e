/**
 * The document's sentences that name an edge of cues, levels, fades, follows, time and merging, each at its last
 * value that holds and its first that does not.
 */
public final class EdgeCueTest {
  private static final int NONE = LightDesk.NONE;

  public static void main(String[] args) {
    thereAreTwoLists();
    atMost10CuesInEach();
    delaysAndFadesAre0To100();
    channelsAre0To11();
    levelsAre0To100OrNone();
    cuesAreThoseThatThereAre();
    goCountsFromNoneTo12();
    atFirstAllLevelsAre0();
    itStaysAsLongAsTheDelay();
    everyFadeRoundsTowards0();
    withAFadeOf0ItIsTheNewLevel();
    ifBothAre0AtOnce();
    theFirstCueFollowsNone();
    theLastCueHasNoNext();
    theNextMustFollow();
    ifThereIsOneByThen();
    atMostOneIsRunning();
    itGoesFromTheLevelThatItHas();
    channelsWithoutALevelStay();
    tenthsAre1To1000();
    aThousandTenthsAreAsOneByOne();
    fromNoneToEighteenBegin();
    timeStandsStillAtTheEnd();
    theHighestIsTheGreaterOne();
    theLatestIsList0IfNoneDid();
    theLatestOfTheSameTenth();
    aLevelOf0IsALevel();
    undoLeavesWhatBegan();
    Expect.end("EdgeCueTest");
  }

  /** Adds a cue that tells one level of channel 0. */
  private static int cue(LightDesk desk, int list, int delay, int fade, boolean follows, int level) {
    int cue = desk.addCue(list, delay, fade, follows);
    desk.setLevel(list, cue, 0, level);
    return cue;
  }

  /** Terms: "There are two lists, 0 and 1". */
  private static void thereAreTwoLists() {
    LightDesk desk = new LightDesk();
    cue(desk, 0, 0, 0, false, 10);
    cue(desk, 1, 0, 0, false, 20);
    for (int list = 0; list < 2; list++) {
      Expect.same("12 none yet", desk.running(list), NONE);
      Expect.same("13 not yet", desk.level(list, 0), 0);
      Expect.same("10 list " + list, desk.go(list, 0), 1);
      Expect.same("12 list " + list, desk.running(list), 0);
      Expect.same("13 list " + list, desk.level(list, 0), 10 + 10 * list);
    }
    for (int list : new int[] {-1, 2}) {
      Expect.fails("7 list " + list, Expect.ARGUMENT, () -> desk.addCue(list, 0, 0, false));
      Expect.fails("8 list " + list, Expect.ARGUMENT, () -> desk.setLevel(list, 0, 0, 0));
      Expect.fails("10 list " + list, Expect.ARGUMENT, () -> desk.go(list, 0));
      Expect.fails("12 list " + list, Expect.ARGUMENT, () -> desk.running(list));
      Expect.fails("13 list " + list, Expect.ARGUMENT, () -> desk.level(list, 0));
    }
  }

  /** Terms: "numbered from 0 in the order in which they were added, at most 10 in each". */
  private static void atMost10CuesInEach() {
    for (int list = 0; list < 2; list++) {
      int full = list;
      LightDesk desk = new LightDesk();
      for (int cue = 0; cue < 10; cue++) {
        Expect.same("7 number", cue(desk, list, 0, 0, false, 10 * cue), cue);
      }
      Expect.fails("7 the 11th", Expect.STATE, () -> desk.addCue(full, 0, 0, false));
      Expect.fails("7 delay ahead of the count", Expect.ARGUMENT, () -> desk.addCue(full, -1, 0, false));
      Expect.fails("7 fade ahead of the count", Expect.ARGUMENT, () -> desk.addCue(full, 0, 101, false));
      Expect.same("7 the other list has room", desk.addCue(1 - list, 0, 0, false), 0);
      Expect.same("10 the last", desk.go(list, 9), 1);
      Expect.same("13 the last", desk.level(list, 0), 90);
      Expect.same("10 the first", desk.go(list, 0), 1);
      Expect.same("13 the first", desk.level(list, 0), 0);
      Expect.fails("10 the 11th", Expect.INDEX, () -> desk.go(full, 10));
      Expect.same("9 it cannot be undone", desk.undo(), 9);
      Expect.fails("7 still full", Expect.STATE, () -> desk.addCue(full, 100, 100, true));
    }
  }

  /** Promise 7: "delay: 0 to 100 tenths, fade: 0 to 100 tenths". */
  private static void delaysAndFadesAre0To100() {
    LightDesk desk = new LightDesk();
    int[][] edges = {{0, 0}, {0, 1}, {1, 0}, {0, 100}, {100, 0}, {100, 100}, {1, 100}, {100, 1}, {99, 99}};
    for (int[] edge : edges) {
      cue(desk, 0, edge[0], edge[1], false, 100);
    }
    for (int[] edge : edges) {
      LightDesk fresh = new LightDesk();
      cue(fresh, 0, edge[0], edge[1], false, 100);
      endsAt(fresh, edge[0] + edge[1]);
    }
    for (int wrong : new int[] {-1, 101}) {
      Expect.fails("7 delay " + wrong, Expect.ARGUMENT, () -> desk.addCue(0, wrong, 0, true));
      Expect.fails("7 fade " + wrong, Expect.ARGUMENT, () -> desk.addCue(0, 0, wrong, true));
      Expect.fails("7 both " + wrong, Expect.ARGUMENT, () -> desk.addCue(0, wrong, wrong, true));
    }
    Expect.same("7 none of these was added", desk.addCue(0, 0, 0, true), 9);
  }

  private static void endsAt(LightDesk desk, int tenths) {
    desk.addCue(0, 0, 0, true);
    desk.go(0, 0);
    if (tenths > 1) {
      Expect.same("11 not over ahead of " + tenths, desk.pass(tenths - 1), 0);
    }
    Expect.same("12 running until " + tenths, desk.running(0), tenths == 0 ? 1 : 0);
    Expect.same("13 below the end", desk.level(0, 0) < 100, tenths > 0);
    Expect.same("11 over at " + tenths, desk.pass(1), tenths == 0 ? 0 : 1);
    Expect.same("13 at the end", desk.level(0, 0), 100);
  }

  /** Terms: "Channels are 0 to 11". */
  private static void channelsAre0To11() {
    LightDesk desk = new LightDesk();
    desk.addCue(1, 0, 0, false);
    for (int channel = 0; channel < 12; channel++) {
      Expect.same("8 no level at first", desk.setLevel(1, 0, channel, 50 + channel), NONE);
      Expect.same("6 not the latest at first", desk.setLatest(channel, channel % 2 == 0), false);
    }
    Expect.same("10 all channels", desk.go(1, 0), 12);
    for (int channel = 0; channel < 12; channel++) {
      Expect.same("8 before", desk.setLevel(1, 0, channel, 0), 50 + channel);
      Expect.same("13 channel " + channel, desk.level(1, channel), 50 + channel);
      Expect.same("14 channel " + channel, desk.merged(channel), 50 + channel);
      Expect.same("6 channel " + channel, desk.setLatest(channel, true), channel % 2 == 0);
    }
    for (int channel : new int[] {-1, 12}) {
      Expect.fails("6 channel " + channel, Expect.ARGUMENT, () -> desk.setLatest(channel, true));
      Expect.fails("8 channel " + channel, Expect.ARGUMENT, () -> desk.setLevel(1, 0, channel, 0));
      Expect.fails("13 channel " + channel, Expect.ARGUMENT, () -> desk.level(1, channel));
      Expect.fails("14 channel " + channel, Expect.ARGUMENT, () -> desk.merged(channel));
    }
  }

  /** Terms: "levels are 0 to 100"; promise 8: "0 to 100, or NONE". */
  private static void levelsAre0To100OrNone() {
    LightDesk desk = new LightDesk();
    desk.addCue(0, 0, 0, false);
    int before = NONE;
    for (int level = 100; level >= NONE; level--) {
      Expect.same("8 the level before", desk.setLevel(0, 0, 11, level), before);
      Expect.same("10 a level, or none", desk.go(0, 0), level == NONE ? 0 : 1);
      Expect.same("13 level " + level, desk.level(0, 11), Math.max(0, level));
      before = level;
    }
    for (int level : new int[] {-2, 101}) {
      Expect.fails("8 level " + level, Expect.ARGUMENT, () -> desk.setLevel(0, 0, 11, level));
      Expect.fails("8 level ahead of cue", Expect.ARGUMENT, () -> desk.setLevel(0, 1, 11, level));
    }
    Expect.same("8 nothing of these was set", desk.setLevel(0, 0, 11, 100), NONE);
  }

  /** Promises 8 and 10: "if there is no such cue", in each list by itself. */
  private static void cuesAreThoseThatThereAre() {
    LightDesk desk = new LightDesk();
    for (int count = 0; count <= 10; count++) {
      int behind = count;
      Expect.fails("8 behind the last cue", Expect.INDEX, () -> desk.setLevel(0, behind, 0, 0));
      Expect.fails("8 ahead of the first cue", Expect.INDEX, () -> desk.setLevel(0, -1, 0, 0));
      Expect.fails("10 behind the last cue", Expect.INDEX, () -> desk.go(0, behind));
      Expect.fails("10 ahead of the first cue", Expect.INDEX, () -> desk.go(0, -1));
      Expect.fails("8 the other list is empty", Expect.INDEX, () -> desk.setLevel(1, 0, 0, 0));
      Expect.fails("10 the other list is empty", Expect.INDEX, () -> desk.go(1, 0));
      if (count < 10) {
        desk.addCue(0, 0, 0, false);
        Expect.same("8 the last cue", desk.setLevel(0, count, 0, 0), NONE);
        Expect.same("10 the last cue", desk.go(0, count), 1);
        Expect.same("12 the last cue", desk.running(0), count);
      }
    }
    Expect.same("12 none in the other list", desk.running(1), NONE);
  }

  /** Promise 10: "Returns how many channels have a level in this cue, whatever follows at once." */
  private static void goCountsFromNoneTo12() {
    LightDesk desk = new LightDesk();
    desk.addCue(0, 0, 0, false);
    desk.addCue(0, 0, 0, true);
    desk.setLevel(0, 1, 11, 100);
    Expect.same("10 no channel", desk.go(0, 0), 0);
    for (int channel = 0; channel < 12; channel++) {
      desk.setLevel(0, 0, channel, 0);
      Expect.same("10 up to channel " + channel, desk.go(0, 0), channel + 1);
      Expect.same("12 the other followed", desk.running(0), 1);
    }
    desk.setLevel(0, 0, 0, NONE);
    Expect.same("10 one less", desk.go(0, 0), 11);
    desk.undo();
    Expect.same("10 undone", desk.go(0, 0), 12);
  }

  /** Terms: "At first all levels are 0 in both lists." */
  private static void atFirstAllLevelsAre0() {
    LightDesk desk = new LightDesk();
    for (int list = 0; list < 2; list++) {
      cue(desk, list, 0, 0, true, 100);
    }
    desk.pass(1000);
    for (int channel = 0; channel < 12; channel++) {
      Expect.same("13 list 0", desk.level(0, channel), 0);
      Expect.same("13 list 1", desk.level(1, channel), 0);
      Expect.same("14 the highest", desk.merged(channel), 0);
      Expect.same("6 at first the highest", desk.setLatest(channel, true), false);
      Expect.same("14 the latest", desk.merged(channel), 0);
      Expect.same("15 no light", desk.light(channel), 0);
    }
  }

  /** Terms: "it stays as long as the delay, then it changes for the fade". */
  private static void itStaysAsLongAsTheDelay() {
    for (int delay : new int[] {0, 1, 2, 99, 100}) {
      LightDesk desk = new LightDesk();
      cue(desk, 0, delay, 2, false, 100);
      desk.go(0, 0);
      if (delay > 0) {
        desk.pass(delay);
      }
      Expect.same("13 at the end of the delay " + delay, desk.level(0, 0), 0);
      desk.pass(1);
      Expect.same("13 within the fade", desk.level(0, 0), 50);
      desk.pass(1);
      Expect.same("13 at the end of the fade", desk.level(0, 0), 100);
      desk.pass(1);
      Expect.same("13 behind it", desk.level(0, 0), 100);
    }
  }

  /** Terms: "the old level plus the quotient of (the new less the old one) times n by f, rounded towards 0". */
  private static void everyFadeRoundsTowards0() {
    int[][] ways = {{0, 100}, {100, 0}, {0, 1}, {1, 0}, {100, 99}, {99, 100}, {37, 90}, {90, 37}, {50, 50}};
    for (int fade = 1; fade <= 100; fade++) {
      for (int[] way : ways) {
        fade(fade, way[0], way[1]);
      }
    }
  }

  private static void fade(int fade, int from, int to) {
    LightDesk desk = new LightDesk();
    cue(desk, 1, 0, 0, false, from);
    cue(desk, 1, 0, fade, false, to);
    desk.go(1, 0);
    desk.go(1, 1);
    Expect.same("10 it begins at " + from, desk.level(1, 0), from);
    for (int n = 1; n <= fade; n++) {
      desk.pass(1);
      int part = Math.abs(to - from) * n / fade;
      Expect.same("13 fade " + fade + " from " + from + " to " + to + " at " + n,
          desk.level(1, 0), to > from ? from + part : from - part);
    }
    desk.pass(1);
    Expect.same("13 behind the fade", desk.level(1, 0), to);
  }

  /** Terms: "with a fade of 0 it is the new level when the delay is over". */
  private static void withAFadeOf0ItIsTheNewLevel() {
    for (int delay : new int[] {1, 2, 100}) {
      LightDesk desk = new LightDesk();
      cue(desk, 0, delay, 0, false, 100);
      desk.addCue(0, 0, 0, true);
      desk.go(0, 0);
      Expect.same("13 at the beginning", desk.level(0, 0), 0);
      if (delay > 1) {
        Expect.same("11 not yet", desk.pass(delay - 1), 0);
        Expect.same("13 ahead of the end of " + delay, desk.level(0, 0), 0);
      }
      Expect.same("11 over with its delay", desk.pass(1), 1);
      Expect.same("13 at the end of " + delay, desk.level(0, 0), 100);
    }
  }

  /** Terms: "if both are 0, at once, within the call by which it begins, go() too". */
  private static void ifBothAre0AtOnce() {
    LightDesk desk = new LightDesk();
    cue(desk, 0, 0, 0, false, 10);
    cue(desk, 0, 0, 0, true, 20);
    cue(desk, 0, 0, 1, true, 30);
    cue(desk, 0, 0, 0, true, 40);
    cue(desk, 0, 1, 0, true, 50);
    cue(desk, 0, 0, 0, true, 60);
    desk.go(0, 0);
    Expect.same("10 until one with a fade", desk.running(0), 2);
    Expect.same("10 by the level of the one ahead", desk.level(0, 0), 20);
    Expect.same("11 until one with a delay", desk.pass(1), 2);
    Expect.same("11 within that tenth", desk.running(0), 4);
    Expect.same("11 by the level of the one ahead", desk.level(0, 0), 40);
    Expect.same("11 to the end", desk.pass(1), 1);
    Expect.same("11 within that tenth", desk.running(0), 5);
    Expect.same("11 the last", desk.level(0, 0), 60);
  }

  /** Terms: "it begins when the fade of the cue ahead of it in the list is over": the first has none ahead. */
  private static void theFirstCueFollowsNone() {
    LightDesk desk = new LightDesk();
    cue(desk, 0, 0, 0, true, 100);
    cue(desk, 1, 0, 0, true, 100);
    cue(desk, 1, 0, 0, true, 100);
    Expect.same("11 none begins by itself", desk.pass(1000), 0);
    Expect.same("12 list 0", desk.running(0), NONE);
    Expect.same("12 list 1", desk.running(1), NONE);
    desk.go(0, 0);
    Expect.same("12 not by the other list's cue", desk.running(1), NONE);
    Expect.same("11 not by itself again", desk.pass(1000), 0);
    Expect.same("12 list 0", desk.running(0), 0);
  }

  /** Terms: "the next cue of the list": behind the last there is none, and the first is not next. */
  private static void theLastCueHasNoNext() {
    for (int fade = 0; fade < 2; fade++) {
      LightDesk desk = new LightDesk();
      for (int cue = 0; cue < 10; cue++) {
        cue(desk, 1, 0, fade, true, 10 + cue);
      }
      Expect.same("10 the last", desk.go(1, 9), 1);
      Expect.same("11 none follows", desk.pass(1000), 0);
      Expect.same("12 the last", desk.running(1), 9);
      Expect.same("13 the last", desk.level(1, 0), 19);
      Expect.same("10 the one ahead", desk.go(1, 8), 1);
      Expect.same("11 one follows", desk.pass(1000), fade);
      Expect.same("12 the last", desk.running(1), 9);
    }
  }

  /** Terms: "if there is one by then and it follows". */
  private static void theNextMustFollow() {
    LightDesk desk = new LightDesk();
    cue(desk, 0, 0, 1, true, 10);
    cue(desk, 0, 0, 1, false, 20);
    cue(desk, 0, 0, 1, true, 30);
    desk.go(0, 0);
    Expect.same("11 the next does not, though this one does", desk.pass(1000), 0);
    Expect.same("12 it stays", desk.running(0), 0);
    desk.go(0, 1);
    Expect.same("11 the next does, though this one does not", desk.pass(1000), 1);
    Expect.same("12 it followed", desk.running(0), 2);
  }

  /** Terms: "if there is one by then": added in the call ahead of the tenth, or in the one behind it. */
  private static void ifThereIsOneByThen() {
    LightDesk desk = new LightDesk();
    cue(desk, 0, 2, 1, false, 10);
    desk.go(0, 0);
    desk.pass(2);
    desk.addCue(0, 0, 1, true);
    Expect.same("11 by then", desk.pass(1), 1);
    desk.pass(1);
    desk.addCue(0, 0, 0, true);
    Expect.same("11 behind that tenth", desk.pass(1000), 0);
    Expect.same("12 it stays", desk.running(0), 1);
    desk.go(0, 2);
    desk.addCue(0, 0, 0, true);
    Expect.same("11 behind that call", desk.pass(1000), 0);
    Expect.same("12 it stays", desk.running(0), 2);
    desk.go(0, 2);
    Expect.same("12 by then", desk.running(0), 3);
  }

  /** Terms: "In each list at most one cue is running: the one that was begun last." */
  private static void atMostOneIsRunning() {
    LightDesk desk = new LightDesk();
    cue(desk, 0, 0, 10, false, 100);
    desk.setLevel(0, 0, 1, 100);
    cue(desk, 0, 0, 0, true, 7);
    cue(desk, 0, 0, 100, false, 50);
    cue(desk, 0, 0, 0, true, 7);
    desk.go(0, 0);
    desk.pass(9);
    desk.go(0, 2);
    Expect.same("11 the one ahead ends no more", desk.pass(99), 0);
    Expect.same("13 nor fades on", desk.level(0, 1), 90);
    Expect.same("12 the one begun last", desk.running(0), 2);
    Expect.same("11 its own end", desk.pass(1), 1);
    Expect.same("12 its own next", desk.running(0), 3);
    desk.go(0, 0);
    desk.pass(9);
    desk.go(0, 0);
    Expect.same("11 begun anew, its time too", desk.pass(9), 0);
    Expect.same("11 its end", desk.pass(1), 1);
  }

  /** Terms: "from the level that it has in this list at that time to that of the cue". */
  private static void itGoesFromTheLevelThatItHas() {
    LightDesk desk = new LightDesk();
    cue(desk, 0, 1, 3, false, 100);
    cue(desk, 0, 0, 3, false, 0);
    cue(desk, 1, 0, 0, false, 77);
    desk.go(1, 0);
    desk.go(0, 0);
    desk.pass(1);
    desk.go(0, 0);
    Expect.same("13 from 0, not from the other list", desk.level(0, 0), 0);
    desk.pass(2);
    Expect.same("13 a third", desk.level(0, 0), 33);
    desk.go(0, 1);
    Expect.same("13 it turns at 33", desk.level(0, 0), 33);
    desk.pass(1);
    Expect.same("13 down by a third", desk.level(0, 0), 22);
    desk.go(0, 0);
    desk.pass(1);
    Expect.same("13 it waits at 22", desk.level(0, 0), 22);
    desk.pass(2);
    Expect.same("13 22 and 52", desk.level(0, 0), 74);
    desk.pass(1);
    Expect.same("13 the end", desk.level(0, 0), 100);
  }

  /** Terms: "Channels without a level in the cue stay as they are by then." */
  private static void channelsWithoutALevelStay() {
    LightDesk desk = new LightDesk();
    cue(desk, 0, 0, 10, false, 100);
    desk.setLevel(0, 0, 11, 50);
    desk.addCue(0, 0, 0, false);
    desk.addCue(0, 5, 5, false);
    desk.go(0, 0);
    desk.pass(3);
    Expect.same("10 no level at all", desk.go(0, 2), 0);
    for (int n = 0; n < 12; n++) {
      Expect.same("13 it stays", desk.level(0, 0), 30);
      Expect.same("13 it stays", desk.level(0, 11), 15);
      desk.pass(1);
    }
    desk.setLevel(0, 1, 0, 0);
    desk.go(0, 1);
    Expect.same("13 a level of 0 is one", desk.level(0, 0), 0);
    Expect.same("13 the other stays", desk.level(0, 11), 15);
  }

  /** Promise 11: "tenths: 1 to 1000". */
  private static void tenthsAre1To1000() {
    LightDesk desk = new LightDesk();
    cue(desk, 0, 0, 100, false, 100);
    desk.go(0, 0);
    for (int tenths : new int[] {0, 1001, -1}) {
      Expect.fails("11 tenths " + tenths, Expect.ARGUMENT, () -> desk.pass(tenths));
      Expect.same("11 no time went", desk.level(0, 0), 0);
    }
    Expect.same("11 one tenth", desk.pass(1), 0);
    Expect.same("11 one tenth went", desk.level(0, 0), 1);
    Expect.same("11 a thousand", desk.pass(1000), 0);
    Expect.same("11 a thousand went", desk.level(0, 0), 100);
  }

  /** A list of ten cues that takes 999 tenths, so that the thousandth is seen. */
  private static LightDesk longList() {
    LightDesk desk = new LightDesk();
    cue(desk, 0, 100, 0, false, 1);
    for (int cue = 1; cue < 9; cue++) {
      cue(desk, 0, 50, 62, true, 10 * cue);
    }
    cue(desk, 0, 3, 100, true, 0);
    desk.setLevel(0, 9, 1, 100);
    return desk;
  }

  /** Promise 11: all of a thousand tenths pass, each as if it were alone. */
  private static void aThousandTenthsAreAsOneByOne() {
    LightDesk all = longList();
    all.go(0, 0);
    Expect.same("11 nine follow", all.pass(1000), 9);
    Expect.same("13 one tenth of the fade", all.level(0, 1), 1);
    LightDesk single = longList();
    single.go(0, 0);
    int begun = 0;
    for (int i = 0; i < 400; i++) {
      begun += single.pass(1);
    }
    begun += single.pass(599);
    Expect.same("11 nine follow", begun, 9);
    Expect.same("13 the fade is to begin", single.level(0, 1), 0);
    Expect.same("11 the thousandth", single.pass(1), 0);
    Expect.same("13 one tenth of the fade", single.level(0, 1), 1);
    Expect.same("13 the same", single.level(0, 0), all.level(0, 0));
  }

  /** Promise 11: "Returns how many cues begin in them", from none to nine behind the first of each list. */
  private static void fromNoneToEighteenBegin() {
    LightDesk desk = new LightDesk();
    Expect.same("11 no cues", desk.pass(1), 0);
    for (int list = 0; list < 2; list++) {
      desk.addCue(list, 0, 1, true);
      for (int cue = 1; cue < 10; cue++) {
        cue(desk, list, 0, 0, true, cue);
      }
    }
    desk.go(0, 0);
    desk.go(1, 0);
    Expect.same("11 eighteen in a tenth", desk.pass(1), 18);
    Expect.same("12 the last of list 0", desk.running(0), 9);
    Expect.same("12 the last of list 1", desk.running(1), 9);
    Expect.same("11 none any more", desk.pass(1), 0);
    desk.go(0, 0);
    Expect.same("11 one list alone", desk.pass(1000), 9);
    desk.go(0, 1);
    Expect.same("11 those of go() do not count", desk.pass(1), 0);
  }

  /** However long a cue has been over, it is over once. */
  private static void timeStandsStillAtTheEnd() {
    LightDesk desk = new LightDesk();
    cue(desk, 0, 100, 100, false, 100);
    desk.go(0, 0);
    desk.pass(200);
    desk.addCue(0, 0, 0, true);
    for (int call = 0; call < 500; call++) {
      Expect.same("11 none begins any more", desk.pass(1000), 0);
    }
    Expect.same("12 it stays", desk.running(0), 0);
    Expect.same("13 it stays", desk.level(0, 0), 100);
  }

  /** Terms: "at first the highest"; "the greater one of both lists", which one it may be. */
  private static void theHighestIsTheGreaterOne() {
    int[][] pairs = {{0, 0}, {0, 1}, {1, 0}, {50, 50}, {99, 100}, {100, 99}, {100, 100}};
    for (int[] pair : pairs) {
      LightDesk desk = new LightDesk();
      cue(desk, 0, 0, 0, false, pair[0]);
      cue(desk, 1, 0, 0, false, pair[1]);
      desk.go(1, 0);
      desk.go(0, 0);
      Expect.same("14 of " + pair[0] + " and " + pair[1], desk.merged(0), Math.max(pair[0], pair[1]));
      desk.setLatest(0, true);
      Expect.same("14 list 0 began last", desk.merged(0), pair[0]);
      desk.go(1, 0);
      Expect.same("14 list 1 began last", desk.merged(0), pair[1]);
      desk.setLatest(0, false);
      Expect.same("14 the highest again", desk.merged(0), Math.max(pair[0], pair[1]));
    }
  }

  /** Terms: "list 0 if none did", for each channel by itself. */
  private static void theLatestIsList0IfNoneDid() {
    LightDesk desk = new LightDesk();
    for (int channel = 0; channel < 12; channel++) {
      desk.setLatest(channel, true);
    }
    cue(desk, 0, 0, 0, false, 10);
    desk.setLevel(0, 0, 11, 11);
    desk.addCue(1, 0, 0, false);
    desk.setLevel(1, 0, 11, 99);
    Expect.same("14 none did", desk.merged(11), 0);
    desk.go(1, 0);
    Expect.same("14 list 1 did", desk.merged(11), 99);
    Expect.same("14 for this channel none did", desk.merged(0), 0);
    desk.go(0, 0);
    Expect.same("14 list 0 did", desk.merged(11), 11);
    Expect.same("14 list 0 did", desk.merged(0), 10);
    desk.go(1, 0);
    Expect.same("14 not by a cue without a level for it", desk.merged(0), 10);
  }

  /** Terms: "of cues that began at the same tenth that which began later in the order of calls and looks". */
  private static void theLatestOfTheSameTenth() {
    LightDesk desk = new LightDesk();
    desk.setLatest(0, true);
    for (int list = 0; list < 2; list++) {
      desk.addCue(list, 1, 0, false);
      cue(desk, list, 1, 0, true, 30 + list);
      cue(desk, list, 1, 0, true, 40 + list);
    }
    desk.go(1, 0);
    desk.go(0, 0);
    desk.pass(1);
    Expect.same("14 both began, at the levels of list 1", desk.merged(0), 0);
    desk.pass(1);
    Expect.same("14 list 1 is looked at later", desk.merged(0), 31);
    desk.go(0, 1);
    Expect.same("14 a call behind the look", desk.merged(0), 30);
    desk.go(1, 1);
    Expect.same("14 a call behind the call", desk.merged(0), 31);
    desk.go(0, 2);
    Expect.same("14 a call behind that", desk.merged(0), 30);
    desk.pass(1);
    Expect.same("14 list 1 began one by itself", desk.merged(0), 31);
    desk.pass(1);
    Expect.same("14 it goes on", desk.merged(0), 41);
  }

  /** Terms: "a level, or none": a level of 0 is a level, for the latest too. */
  private static void aLevelOf0IsALevel() {
    LightDesk desk = new LightDesk();
    desk.setLatest(0, true);
    cue(desk, 0, 0, 0, false, 100);
    cue(desk, 1, 0, 0, false, 0);
    desk.go(0, 0);
    Expect.same("14 list 0", desk.merged(0), 100);
    Expect.same("10 it counts", desk.go(1, 0), 1);
    Expect.same("14 list 1, by 0", desk.merged(0), 0);
    desk.go(0, 0);
    desk.setLevel(1, 0, 0, NONE);
    Expect.same("10 none does not count", desk.go(1, 0), 0);
    Expect.same("14 list 0 still", desk.merged(0), 100);
  }

  /** Terms: "begun cues, levels and time are not touched by that". */
  private static void undoLeavesWhatBegan() {
    LightDesk desk = new LightDesk();
    desk.setLatest(0, true);
    cue(desk, 0, 0, 4, false, 100);
    cue(desk, 1, 0, 2, false, 60);
    desk.addCue(1, 0, 0, true);
    desk.go(0, 0);
    desk.go(1, 0);
    desk.pass(1);
    Expect.same("9 the level of list 1", desk.undo(), 1);
    Expect.same("9 the level of list 0", desk.undo(), 0);
    Expect.same("13 list 0 goes on", desk.level(0, 0), 25);
    Expect.same("14 list 1 is the latest", desk.merged(0), 30);
    Expect.same("11 list 1 is over in time", desk.pass(1), 1);
    Expect.same("12 it followed", desk.running(1), 1);
    Expect.same("13 at its end", desk.level(1, 0), 60);
    desk.pass(2);
    Expect.same("13 at its end", desk.level(0, 0), 100);
    Expect.same("10 no level any more", desk.go(0, 0), 0);
    desk.pass(4);
    Expect.same("13 it stays", desk.level(0, 0), 100);
    Expect.same("14 list 1 still", desk.merged(0), 60);
  }
}
