/** Promises 13 to 18: levels, merging, light, previews and what a swap would touch. */
public final class LightTest {
  private static final int NONE = LightDesk.NONE;
  private static final int[] WRONG_LISTS = {-1, 2, Integer.MIN_VALUE, Integer.MAX_VALUE};
  private static final int[] WRONG_CHANNELS = {-1, 12, Integer.MIN_VALUE, Integer.MAX_VALUE};
  private static final int[] WRONG_NIGHTS = {-1, 4, Integer.MIN_VALUE, Integer.MAX_VALUE};

  public static void main(String[] args) {
    promise13Level();
    promise14MergedHighest();
    promise14MergedLatest();
    promise14LatestInTheSameTenth();
    promise14LatestCountsLevelsAtTheBeginning();
    promise14Wrong();
    promise15Light();
    promise16AllLight();
    promise17Preview();
    promise17PreviewFollowsEachChange();
    promise17Wrong();
    promise18Touched();
    promise18Wrong();
    Expect.end("LightTest");
  }

  /** Cue 0 of either list tells channel 0, by that list's level, without delay and fade. */
  private static LightDesk twoLists(int level0, int level1) {
    LightDesk desk = new LightDesk();
    desk.addCue(0, 0, 0, false);
    desk.addCue(1, 0, 0, false);
    desk.setLevel(0, 0, 0, level0);
    desk.setLevel(1, 0, 0, level1);
    return desk;
  }

  private static void promise13Level() {
    LightDesk desk = twoLists(10, 20);
    desk.setLevel(1, 0, 11, 100);
    Expect.same("13 at first", desk.level(1, 11), 0);
    desk.go(1, 0);
    Expect.same("13 list 1", desk.level(1, 0), 20);
    Expect.same("13 last channel", desk.level(1, 11), 100);
    Expect.same("13 list 0", desk.level(0, 0), 0);
    Expect.same("13 untold channel", desk.level(1, 5), 0);
    for (int list : WRONG_LISTS) {
      Expect.fails("13 list " + list, Expect.ARGUMENT, () -> desk.level(list, 0));
    }
    for (int channel : WRONG_CHANNELS) {
      Expect.fails("13 channel " + channel, Expect.ARGUMENT, () -> desk.level(0, channel));
    }
  }

  private static void promise14MergedHighest() {
    LightDesk desk = twoLists(30, 20);
    desk.go(0, 0);
    Expect.same("14 list 0 alone", desk.merged(0), 30);
    desk.go(1, 0);
    Expect.same("14 list 0 is greater", desk.merged(0), 30);
    desk.setLevel(1, 0, 0, 40);
    desk.go(1, 0);
    Expect.same("14 list 1 is greater", desk.merged(0), 40);
    Expect.same("14 other channels", desk.merged(1), 0);
  }

  private static void promise14MergedLatest() {
    LightDesk desk = twoLists(30, 20);
    desk.setLevel(1, 0, 1, 7);
    for (int channel = 0; channel < 12; channel++) {
      desk.setLatest(channel, true);
    }
    Expect.same("14 none began", desk.merged(0), 0);
    desk.go(0, 0);
    desk.go(1, 0);
    Expect.same("14 list 1 began last", desk.merged(0), 20);
    Expect.same("14 list 1 alone tells it", desk.merged(1), 7);
    desk.go(0, 0);
    Expect.same("14 list 0 began last", desk.merged(0), 30);
    Expect.same("14 list 0 does not tell it", desk.merged(1), 7);
    desk.addCue(1, 10, 0, false);
    desk.setLevel(1, 1, 0, 99);
    desk.go(1, 1);
    Expect.same("14 from its beginning, ahead of its delay", desk.merged(0), 20);
    desk.addCue(0, 0, 0, false);
    desk.setLevel(0, 1, 2, 0);
    desk.go(0, 1);
    Expect.same("14 a cue without a level for it", desk.merged(0), 20);
  }

  private static void promise14LatestInTheSameTenth() {
    LightDesk desk = new LightDesk();
    desk.setLatest(0, true);
    for (int list = 0; list < 2; list++) {
      desk.addCue(list, 0, 5, false);
      desk.addCue(list, 0, 0, true);
      desk.addCue(list, 0, 0, true);
    }
    desk.setLevel(0, 2, 0, 60);
    desk.setLevel(1, 1, 0, 40);
    desk.go(1, 0);
    desk.go(0, 0);
    Expect.same("14 four begin in a tenth", desk.pass(5), 4);
    Expect.same("14 list 1 is looked at later", desk.merged(0), 40);
    desk.go(0, 2);
    Expect.same("14 a later call", desk.merged(0), 60);
    desk.go(1, 1);
    Expect.same("14 a later call", desk.merged(0), 40);
  }

  private static void promise14LatestCountsLevelsAtTheBeginning() {
    LightDesk desk = twoLists(30, 20);
    desk.setLatest(0, true);
    desk.setLatest(1, true);
    desk.go(1, 0);
    desk.go(0, 0);
    desk.setLevel(0, 0, 0, NONE);
    Expect.same("14 it had a level when it began", desk.merged(0), 30);
    desk.undo();
    desk.undo();
    desk.undo();
    Expect.same("14 undoing leaves it", desk.merged(0), 30);
    desk.go(0, 0);
    Expect.same("14 without a level it stays", desk.merged(0), 30);
    desk.setLevel(1, 0, 0, 5);
    Expect.same("14 a level set later", desk.merged(0), 30);
    desk.go(1, 0);
    Expect.same("14 begun with it", desk.merged(0), 5);
  }

  private static void promise14Wrong() {
    LightDesk desk = twoLists(1, 2);
    for (int channel : WRONG_CHANNELS) {
      Expect.fails("14 channel " + channel, Expect.ARGUMENT, () -> desk.merged(channel));
    }
  }

  private static void promise15Light() {
    LightDesk desk = twoLists(33, 0);
    desk.go(0, 0);
    Expect.same("15 no lamps", desk.light(0), 0);
    desk.addLamp(7, 3);
    desk.addLamp(3, 7);
    desk.addLamp(20, 0);
    desk.hang(0, 0, 0);
    Expect.same("15 rounded down", desk.light(0), 196);
    desk.hang(0, 1, 0);
    Expect.same("15 rounded for each lamp", desk.light(0), 196 + 64);
    desk.hang(1, 2, 0);
    Expect.same("15 other nights do not count", desk.light(0), 260);
    desk.hang(0, 2, 1);
    Expect.same("15 other channels do not count", desk.light(0), 260);
    desk.setNight(1);
    Expect.same("15 the present night", desk.light(0), 660);
    desk.setLevel(1, 0, 0, 100);
    desk.go(1, 0);
    Expect.same("15 the merged level", desk.light(0), 2000);
    for (int channel : WRONG_CHANNELS) {
      Expect.fails("15 channel " + channel, Expect.ARGUMENT, () -> desk.light(channel));
    }
    everyGel();
  }

  private static void everyGel() {
    int[] through = {100, 95, 90, 85, 80, 75, 70, 65};
    LightDesk desk = twoLists(100, 0);
    desk.go(0, 0);
    desk.addLamp(1, 0);
    desk.hang(0, 0, 0);
    for (int gel = 0; gel < 8; gel++) {
      desk.swap(0, 1, gel);
      Expect.same("15 gel " + gel, desk.light(0), through[gel]);
    }
  }

  private static void promise16AllLight() {
    LightDesk desk = new LightDesk();
    desk.addCue(0, 0, 0, false);
    for (int channel = 0; channel < 12; channel++) {
      desk.setLevel(0, 0, channel, 100);
    }
    for (int lamp = 0; lamp < 20; lamp++) {
      desk.addLamp(20, 0);
      desk.hang(2, lamp, lamp % 12);
    }
    desk.go(0, 0);
    Expect.same("16 nothing hangs in night 0", desk.allLight(), 0);
    desk.setNight(2);
    Expect.same("16 all lamps", desk.allLight(), 40000);
    desk.hang(2, 11, NONE);
    Expect.same("16 without the last channel", desk.allLight(), 38000);
    desk.addCue(1, 0, 0, false);
    desk.setLevel(1, 0, 0, 50);
    desk.setLatest(0, true);
    desk.go(1, 0);
    Expect.same("16 at merged levels", desk.allLight(), 36000);
    desk.swap(1, 1, 7);
    Expect.same("16 each lamp its own", desk.allLight(), 36000 - 2000 + 65);
  }

  private static void promise17Preview() {
    LightDesk desk = twoLists(33, 66);
    desk.setLevel(0, 0, 5, 99);
    desk.addLamp(7, 3);
    desk.addLamp(3, 7);
    desk.addLamp(20, 0);
    desk.hang(0, 0, 0);
    desk.hang(0, 1, 0);
    desk.hang(1, 0, 5);
    desk.hang(1, 2, 0);
    desk.hang(2, 2, 7);
    desk.addCue(1, 0, 0, false);
    Expect.same("17 list 0, night 0", desk.preview(0, 0, 0), 196 + 64);
    Expect.same("17 list 0, night 1", desk.preview(0, 0, 1), 589 + 660);
    Expect.same("17 0 where it tells none", desk.preview(0, 0, 2), 0);
    Expect.same("17 an empty rig", desk.preview(0, 0, 3), 0);
    Expect.same("17 list 1", desk.preview(1, 0, 0), 392 + 128);
    Expect.same("17 a cue without levels", desk.preview(1, 1, 0), 0);
    desk.go(1, 0);
    Expect.same("17 not by what runs", desk.preview(0, 0, 0), 260);
    Expect.same("17 begins nothing", desk.running(0), NONE);
    Expect.same("17 nothing to undo of it", desk.undo(), 7);
  }

  private static void promise17PreviewFollowsEachChange() {
    LightDesk desk = twoLists(50, 100);
    desk.addLamp(10, 0);
    Expect.same("17 hangs on none", desk.preview(0, 0, 0), 0);
    desk.hang(0, 0, 0);
    Expect.same("17 hung", desk.preview(0, 0, 0), 500);
    desk.swap(0, 20, 2);
    Expect.same("17 swapped", desk.preview(0, 0, 0), 900);
    desk.setLevel(0, 0, 0, 100);
    Expect.same("17 another level", desk.preview(0, 0, 0), 1800);
    desk.addLamp(1, 0);
    desk.hang(0, 1, 0);
    Expect.same("17 another lamp", desk.preview(0, 0, 0), 1900);
    desk.undo();
    Expect.same("17 undone", desk.preview(0, 0, 0), 1800);
    desk.undo();
    Expect.same("17 undone", desk.preview(0, 0, 0), 900);
    desk.undo();
    Expect.same("17 undone", desk.preview(0, 0, 0), 500);
    desk.undo();
    Expect.same("17 undone", desk.preview(0, 0, 0), 0);
  }

  private static void promise17Wrong() {
    LightDesk desk = twoLists(1, 1);
    for (int list : WRONG_LISTS) {
      Expect.fails("17 list " + list, Expect.ARGUMENT, () -> desk.preview(list, 0, 0));
      Expect.fails("17 list first", Expect.ARGUMENT, () -> desk.preview(list, 10, 0));
    }
    for (int night : WRONG_NIGHTS) {
      Expect.fails("17 night " + night, Expect.ARGUMENT, () -> desk.preview(0, 0, night));
      Expect.fails("17 night first", Expect.ARGUMENT, () -> desk.preview(0, 10, night));
    }
    int[] cues = {-1, 1, 10, Integer.MIN_VALUE, Integer.MAX_VALUE};
    for (int cue : cues) {
      Expect.fails("17 cue " + cue, Expect.INDEX, () -> desk.preview(0, cue, 0));
    }
  }

  private static void promise18Touched() {
    LightDesk desk = twoLists(33, 66);
    desk.addCue(1, 0, 0, true);
    desk.addCue(1, 0, 0, true);
    desk.setLevel(1, 1, 5, 99);
    desk.setLevel(1, 2, 0, 0);
    desk.addLamp(7, 3);
    desk.addLamp(1, 6);
    desk.addLamp(20, 0);
    desk.hang(0, 0, 0);
    desk.hang(1, 0, 5);
    desk.hang(0, 1, 0);
    Expect.same("18 cues of both lists", desk.touched(0, 7, 4, 0), 2);
    Expect.same("18 another night", desk.touched(0, 7, 4, 1), 1);
    Expect.same("18 hangs on none", desk.touched(0, 7, 4, 2), 0);
    Expect.same("18 the same kind", desk.touched(0, 7, 3, 0), 0);
    Expect.same("18 a lamp that does not hang", desk.touched(2, 1, 1, 0), 0);
    Expect.same("18 another power", desk.touched(0, 8, 3, 0), 2);
    desk.setLevel(0, 0, 0, 1);
    Expect.same("18 rounded away", desk.touched(1, 1, 7, 0), 1);
    Expect.same("18 another kind of the same light", desk.touched(1, 1, 6, 0), 0);
    Expect.same("18 nothing changes", desk.preview(1, 0, 0), 392 + 46);
    Expect.same("18 nothing to undo of it", desk.undo(), 7);
    desk.setLevel(0, 0, 0, NONE);
    Expect.same("18 a cue that tells none", desk.touched(0, 7, 4, 0), 1);
    desk.undo();
    Expect.same("18 undone", desk.touched(0, 7, 4, 0), 2);
    allCues();
  }

  private static void allCues() {
    LightDesk desk = new LightDesk();
    for (int lamp = 0; lamp < 20; lamp++) {
      desk.addLamp(20, 7);
    }
    desk.hang(3, 19, 11);
    for (int cue = 0; cue < 10; cue++) {
      for (int list = 0; list < 2; list++) {
        desk.addCue(list, 100, 100, false);
        desk.setLevel(list, cue, 11, 100);
      }
    }
    Expect.same("18 all cues", desk.touched(19, 1, 0, 3), 20);
  }

  private static void promise18Wrong() {
    LightDesk desk = new LightDesk();
    desk.addLamp(1, 0);
    int[] lamps = {-1, 1, 20, Integer.MIN_VALUE, Integer.MAX_VALUE};
    for (int lamp : lamps) {
      Expect.fails("18 lamp " + lamp, Expect.INDEX, () -> desk.touched(lamp, 1, 0, 0));
      Expect.fails("18 lamp first", Expect.INDEX, () -> desk.touched(lamp, 0, 8, 4));
    }
    int[] powers = {0, -1, 21, Integer.MIN_VALUE, Integer.MAX_VALUE};
    for (int power : powers) {
      Expect.fails("18 power " + power, Expect.ARGUMENT, () -> desk.touched(0, power, 0, 0));
    }
    int[] gels = {-1, 8, Integer.MIN_VALUE, Integer.MAX_VALUE};
    for (int gel : gels) {
      Expect.fails("18 gel " + gel, Expect.ARGUMENT, () -> desk.touched(0, 1, gel, 0));
    }
    for (int night : WRONG_NIGHTS) {
      Expect.fails("18 night " + night, Expect.ARGUMENT, () -> desk.touched(0, 1, 0, night));
    }
  }
}
