/**
 * The document's sentences that name an edge of lamps, rigs, light, previews and undoing, each at its last value
 * that holds and its first that does not. What is refused is called here once more where the edge is a count.
 */
public final class EdgeRigTest {
  private static final int NONE = LightDesk.NONE;

  public static void main(String[] args) {
    channelsAre0To11();
    lampsAreNumberedFrom0();
    atMost20Lamps();
    powersAre1To20();
    gelsAre0To7();
    nightsAre0To3ThePresentOne0AtFirst();
    atFirstALampHangsOnNone();
    roundedDownForEachLamp();
    theLeastAndTheGreatestLight();
    previewIs0WhereItTellsNone();
    previewCuesAreThoseThatThereAre();
    touchedCountsFromNoneToAll();
    touchedIsByThePreviewsAnswer();
    atMost20Undone();
    theTwentyGoRound();
    undoingTakesBackTheVeryOne();
    eachCallAsOneAlsoIfItChangesNothing();
    someCannotBeUndone();
    refusedCallsAreNoChanges();
    theLastOfAllCalls();
    Expect.end("EdgeRigTest");
  }

  /** Lamps of power 1 without loss; all channels stand at a level of 100 by cue 0 of list 0. */
  private static LightDesk lit(int lamps) {
    LightDesk desk = new LightDesk();
    desk.addCue(0, 0, 0, false);
    for (int channel = 0; channel < 12; channel++) {
      desk.setLevel(0, 0, channel, 100);
    }
    desk.go(0, 0);
    for (int lamp = 0; lamp < lamps; lamp++) {
      desk.addLamp(1, 0);
    }
    return desk;
  }

  /** Terms: "Channels are 0 to 11"; promise 4: "0 to 11, or NONE". */
  private static void channelsAre0To11() {
    LightDesk desk = lit(1);
    int before = NONE;
    for (int channel = 0; channel < 12; channel++) {
      Expect.same("4 the channel before " + channel, desk.hang(0, 0, channel), before);
      for (int other = 0; other < 12; other++) {
        Expect.same("15 hangs on " + channel + " alone", desk.light(other), other == channel ? 100 : 0);
      }
      Expect.same("16 on " + channel, desk.allLight(), 100);
      before = channel;
    }
    Expect.fails("4 channel 12", Expect.ARGUMENT, () -> desk.hang(0, 0, 12));
    Expect.fails("4 channel -2", Expect.ARGUMENT, () -> desk.hang(0, 0, -2));
    Expect.fails("15 channel 12", Expect.ARGUMENT, () -> desk.light(12));
    Expect.fails("15 channel -1", Expect.ARGUMENT, () -> desk.light(NONE));
    Expect.same("4 the last one", desk.hang(0, 0, NONE), 11);
    Expect.same("4 none", desk.hang(0, 0, NONE), NONE);
    Expect.same("16 on none", desk.allLight(), 0);
  }

  /** Terms: "Lamps are numbered from 0". */
  private static void lampsAreNumberedFrom0() {
    LightDesk desk = new LightDesk();
    Expect.fails("3 no lamp 0", Expect.INDEX, () -> desk.swap(0, 1, 0));
    Expect.fails("4 no lamp 0", Expect.INDEX, () -> desk.hang(0, 0, 0));
    Expect.fails("18 no lamp 0", Expect.INDEX, () -> desk.touched(0, 1, 0, 0));
    for (int lamp = 0; lamp < 20; lamp++) {
      int behind = lamp + 1;
      Expect.same("2 number", desk.addLamp(1, 0), lamp);
      desk.swap(lamp, 20, 7);
      Expect.same("4 the last lamp", desk.hang(3, lamp, 11), NONE);
      Expect.same("18 the last lamp", desk.touched(lamp, 1, 0, 3), 0);
      Expect.fails("3 behind the last lamp", Expect.INDEX, () -> desk.swap(behind, 1, 0));
      Expect.fails("4 behind the last lamp", Expect.INDEX, () -> desk.hang(0, behind, 0));
      Expect.fails("18 behind the last lamp", Expect.INDEX, () -> desk.touched(behind, 1, 0, 0));
    }
  }

  /** Terms: "there are at most 20"; promise 2: "if there are 20". */
  private static void atMost20Lamps() {
    LightDesk desk = lit(19);
    Expect.same("2 the 20th", desk.addLamp(20, 0), 19);
    for (int again = 0; again < 3; again++) {
      Expect.fails("2 the 21st", Expect.STATE, () -> desk.addLamp(20, 0));
      Expect.fails("2 power ahead of the count", Expect.ARGUMENT, () -> desk.addLamp(21, 0));
      Expect.fails("2 gel ahead of the count", Expect.ARGUMENT, () -> desk.addLamp(1, 8));
    }
    Expect.fails("3 no lamp 20", Expect.INDEX, () -> desk.swap(20, 1, 0));
    for (int lamp = 0; lamp < 20; lamp++) {
      desk.hang(0, lamp, 0);
    }
    Expect.same("15 twenty lamps, each as it was added", desk.light(0), 19 * 100 + 20 * 100);
  }

  /** Terms: "A lamp has a power from 1 to 20". */
  private static void powersAre1To20() {
    for (int power = 1; power <= 20; power++) {
      LightDesk desk = lit(1);
      desk.addLamp(power, 0);
      desk.hang(0, 0, 0);
      desk.hang(0, 1, 1);
      desk.swap(0, power, 0);
      Expect.same("2 added with power " + power, desk.light(1), power * 100);
      Expect.same("3 swapped to power " + power, desk.light(0), power * 100);
      Expect.same("18 power " + power, desk.touched(0, power, 0, 0), 0);
      Expect.same("18 another power", desk.touched(0, 21 - power, 0, 0), 1);
    }
    LightDesk desk = lit(1);
    for (int power : new int[] {0, 21}) {
      Expect.fails("2 power " + power, Expect.ARGUMENT, () -> desk.addLamp(power, 0));
      Expect.fails("3 power " + power, Expect.ARGUMENT, () -> desk.swap(0, power, 0));
      Expect.fails("18 power " + power, Expect.ARGUMENT, () -> desk.touched(0, power, 0, 0));
    }
  }

  /** Terms: "a gel, a colour from 0 to 7, that lets some hundredths of the light through, 100 less 5 times". */
  private static void gelsAre0To7() {
    int[] through = {100, 95, 90, 85, 80, 75, 70, 65};
    for (int gel = 0; gel <= 7; gel++) {
      LightDesk desk = lit(1);
      desk.addLamp(20, gel);
      desk.hang(0, 0, 0);
      desk.hang(0, 1, 1);
      desk.swap(0, 20, gel);
      Expect.same("2 added with gel " + gel, desk.light(1), 20 * through[gel]);
      Expect.same("3 swapped to gel " + gel, desk.light(0), 20 * through[gel]);
      Expect.same("18 gel " + gel, desk.touched(0, 20, gel, 0), 0);
      Expect.same("18 another gel", desk.touched(0, 20, 7 - gel, 0), 1);
    }
    LightDesk desk = lit(1);
    for (int gel : new int[] {-1, 8}) {
      Expect.fails("2 gel " + gel, Expect.ARGUMENT, () -> desk.addLamp(1, gel));
      Expect.fails("3 gel " + gel, Expect.ARGUMENT, () -> desk.swap(0, 1, gel));
      Expect.fails("18 gel " + gel, Expect.ARGUMENT, () -> desk.touched(0, 1, gel, 0));
    }
  }

  /** Terms: "Nights are 0 to 3; the present one is 0 at first." */
  private static void nightsAre0To3ThePresentOne0AtFirst() {
    LightDesk desk = lit(4);
    for (int night = 0; night < 4; night++) {
      desk.swap(night, 10 + night, 0);
      desk.hang(night, night, 5);
    }
    Expect.same("15 night 0 at first", desk.light(5), 1000);
    int before = 0;
    for (int night = 3; night >= 0; night--) {
      Expect.same("5 the night before", desk.setNight(night), before);
      Expect.same("15 night " + night, desk.light(5), 1000 + 100 * night);
      Expect.same("16 night " + night, desk.allLight(), 1000 + 100 * night);
      Expect.same("17 night " + night, desk.preview(0, 0, night), 1000 + 100 * night);
      Expect.same("18 hangs in night " + night, desk.touched(night, 1, 0, night), 1);
      Expect.same("18 hangs in it alone", desk.touched(night, 1, 0, 3 - night), 0);
      before = night;
    }
    for (int night : new int[] {-1, 4}) {
      Expect.fails("4 night " + night, Expect.ARGUMENT, () -> desk.hang(night, 0, 0));
      Expect.fails("5 night " + night, Expect.ARGUMENT, () -> desk.setNight(night));
      Expect.fails("17 night " + night, Expect.ARGUMENT, () -> desk.preview(0, 0, night));
      Expect.fails("18 night " + night, Expect.ARGUMENT, () -> desk.touched(0, 1, 0, night));
    }
  }

  /** Terms: "In each night a lamp hangs on a channel, or on none, at first on none". */
  private static void atFirstALampHangsOnNone() {
    LightDesk desk = lit(20);
    for (int night = 0; night < 4; night++) {
      desk.setNight(night);
      Expect.same("16 dark at first", desk.allLight(), 0);
      Expect.same("17 dark at first", desk.preview(0, 0, night), 0);
      Expect.same("18 untouched at first", desk.touched(19, 20, 0, night), 0);
      for (int lamp = 0; lamp < 20; lamp++) {
        Expect.same("4 none at first", desk.hang(night, lamp, 11), NONE);
      }
      Expect.same("15 all on the last channel", desk.light(11), 2000);
    }
  }

  /** Terms: "divided by 100, rounded down for each lamp". */
  private static void roundedDownForEachLamp() {
    LightDesk desk = new LightDesk();
    desk.addCue(1, 0, 0, false);
    for (int lamp = 0; lamp < 20; lamp++) {
      desk.addLamp(1, 1);
      desk.hang(0, lamp, 0);
    }
    int[] due = {0, 0, 1, 2, 3, 4, 5, 6, 7, 8, 9, 10, 11, 12, 13, 14, 15, 16, 17, 18, 19, 19};
    for (int level = 0; level < due.length; level++) {
      desk.setLevel(1, 0, 0, level);
      desk.go(1, 0);
      Expect.same("15 twenty times 0.95 times " + level, desk.light(0), 20 * due[level]);
      Expect.same("16 the same for all", desk.allLight(), 20 * due[level]);
      Expect.same("17 the same in a preview", desk.preview(1, 0, 0), 20 * due[level]);
    }
    desk.setLevel(1, 0, 0, 1);
    desk.go(1, 0);
    desk.swap(0, 20, 1);
    Expect.same("15 without a rest", desk.light(0), 19);
    desk.swap(0, 3, 7);
    Expect.same("15 1.95", desk.light(0), 1);
  }

  /** The least and the greatest light that the terms allow. */
  private static void theLeastAndTheGreatestLight() {
    LightDesk desk = lit(0);
    Expect.same("16 no lamps", desk.allLight(), 0);
    for (int lamp = 0; lamp < 20; lamp++) {
      desk.addLamp(20, 0);
      desk.hang(3, lamp, 11);
    }
    Expect.same("16 no lamp hangs", desk.allLight(), 0);
    desk.setNight(3);
    Expect.same("15 the greatest", desk.light(11), 40000);
    Expect.same("15 another channel", desk.light(10), 0);
    Expect.same("16 the greatest", desk.allLight(), 40000);
    Expect.same("17 the greatest", desk.preview(0, 0, 3), 40000);
    desk.setLevel(0, 0, 11, 0);
    desk.go(0, 0);
    Expect.same("15 at level 0", desk.light(11), 0);
    desk.setLevel(0, 0, 11, 1);
    desk.go(0, 0);
    Expect.same("15 at level 1", desk.light(11), 400);
  }

  /** Promise 17: "the light of all channels at the levels that the cue tells, 0 where it tells none". */
  private static void previewIs0WhereItTellsNone() {
    LightDesk desk = lit(12);
    desk.addCue(0, 100, 100, false);
    for (int channel = 0; channel < 12; channel++) {
      desk.hang(0, channel, channel);
    }
    Expect.same("17 all channels", desk.preview(0, 0, 0), 1200);
    Expect.same("17 it tells none at all", desk.preview(0, 1, 0), 0);
    desk.go(0, 1);
    Expect.same("16 the levels stay", desk.allLight(), 1200);
    Expect.same("17 not by the levels that stay", desk.preview(0, 1, 0), 0);
    for (int channel = 0; channel < 12; channel++) {
      desk.setLevel(0, 1, channel, channel + 1);
      Expect.same("17 up to channel " + channel, desk.preview(0, 1, 0), (channel + 1) * (channel + 2) / 2);
    }
    desk.setLevel(0, 1, 11, NONE);
    Expect.same("17 without the last", desk.preview(0, 1, 0), 66);
    desk.setLevel(0, 1, 0, 0);
    Expect.same("17 0 is as none", desk.preview(0, 1, 0), 65);
  }

  /** Promise 17: "if there is no such cue", in each list by itself. */
  private static void previewCuesAreThoseThatThereAre() {
    LightDesk desk = new LightDesk();
    for (int count = 0; count <= 10; count++) {
      int behind = count;
      Expect.fails("17 behind the last cue", Expect.INDEX, () -> desk.preview(1, behind, 0));
      Expect.fails("17 ahead of the first cue", Expect.INDEX, () -> desk.preview(1, -1, 3));
      Expect.fails("17 the other list is empty", Expect.INDEX, () -> desk.preview(0, 0, 0));
      Expect.fails("17 list 2", Expect.ARGUMENT, () -> desk.preview(2, behind, 0));
      Expect.fails("17 list -1", Expect.ARGUMENT, () -> desk.preview(-1, behind, 0));
      if (count > 0) {
        Expect.same("17 the last cue", desk.preview(1, count - 1, 3), 0);
      }
      if (count < 10) {
        desk.addCue(1, 0, 0, false);
      }
    }
  }

  /** Promise 18: "the cues of both lists", from none to all twenty. */
  private static void touchedCountsFromNoneToAll() {
    LightDesk desk = new LightDesk();
    desk.addLamp(1, 0);
    desk.hang(2, 0, 11);
    Expect.same("18 no cues", desk.touched(0, 20, 7, 2), 0);
    int due = 0;
    for (int cue = 0; cue < 10; cue++) {
      for (int list = 0; list < 2; list++) {
        desk.addCue(list, 0, 0, true);
        Expect.same("18 one without levels", desk.touched(0, 20, 7, 2), due);
        desk.setLevel(list, cue, 11, 0);
        Expect.same("18 one with level 0", desk.touched(0, 20, 7, 2), due);
        desk.setLevel(list, cue, 11, 1);
        due++;
        Expect.same("18 one more", desk.touched(0, 20, 7, 2), due);
        Expect.same("18 as it is", desk.touched(0, 1, 0, 2), 0);
        Expect.same("18 not in night 1", desk.touched(0, 20, 7, 1), 0);
      }
    }
    Expect.same("18 all cues", due, 20);
    Expect.same("18 nothing changes", desk.preview(1, 9, 2), 1);
  }

  /** Promise 18: "whose preview in a night would be another one", so rounding may hide it. */
  private static void touchedIsByThePreviewsAnswer() {
    LightDesk desk = new LightDesk();
    desk.addLamp(1, 1);
    desk.addLamp(20, 0);
    desk.hang(0, 0, 0);
    desk.hang(0, 1, 0);
    desk.addCue(0, 0, 0, false);
    desk.setLevel(0, 0, 0, 1);
    Expect.same("18 0.95 and 0.65", desk.touched(0, 1, 7, 0), 0);
    Expect.same("18 0.95 and 1", desk.touched(0, 1, 0, 0), 1);
    Expect.same("18 0.95 and 1.3", desk.touched(0, 2, 7, 0), 1);
    desk.swap(0, 20, 7);
    Expect.same("18 13 and 13", desk.touched(0, 13, 0, 0), 0);
    Expect.same("18 13 and 12", desk.touched(0, 12, 0, 0), 1);
    desk.setLevel(0, 0, 0, 100);
    Expect.same("18 1300 and 1300", desk.touched(0, 13, 0, 0), 0);
    desk.setLevel(0, 0, 0, NONE);
    Expect.same("18 no level", desk.touched(0, 1, 0, 0), 0);
    Expect.same("18 it is no change", desk.undo(), 5);
  }

  /** Terms: "the last one first, at most 20 of them"; promise 9: "if there is none". */
  private static void atMost20Undone() {
    for (int changes = 0; changes <= 22; changes++) {
      LightDesk desk = new LightDesk();
      desk.addLamp(1, 0);
      for (int i = 0; i < changes; i++) {
        desk.swap(0, 1 + i % 20, i % 8);
      }
      int left = Math.min(20, changes);
      while (left > 0) {
        left--;
        Expect.same("9 left of " + changes, desk.undo(), left);
      }
      Expect.fails("9 none left of " + changes, Expect.STATE, desk::undo);
      Expect.fails("9 again", Expect.STATE, desk::undo);
      desk.swap(0, 1, 0);
      Expect.same("9 one anew", desk.undo(), 0);
      Expect.fails("9 none left", Expect.STATE, desk::undo);
    }
  }

  /** The oldest change of 21 stays; it goes so over and over, with changes of all three kinds. */
  private static void theTwentyGoRound() {
    LightDesk desk = lit(1);
    desk.hang(0, 0, 0);
    for (int round = 0; round < 9; round++) {
      for (int i = 0; i < 7; i++) {
        desk.swap(0, 1 + round + i, 0);
        desk.hang(1, 0, (round + i) % 12);
        desk.setLevel(0, 0, 1, round * 7 + i);
      }
      for (int left = 19; left >= 0; left--) {
        Expect.same("9 round " + round, desk.undo(), left);
      }
      Expect.fails("9 the 21st", Expect.STATE, desk::undo);
      Expect.same("9 its swap stays", desk.light(0), (1 + round) * 100);
      Expect.same("9 its hanging is gone", desk.hang(1, 0, NONE), NONE);
      Expect.same("9 its level is gone", desk.setLevel(0, 0, 1, 100), 100);
      Expect.same("9 two left", desk.undo(), 1);
    }
  }

  /** Terms: "Changes of cues, rigs and lamps can be undone": first and last lamps, nights, lists, cues, channels. */
  private static void undoingTakesBackTheVeryOne() {
    LightDesk desk = lit(20);
    for (int cue = 0; cue < 10; cue++) {
      desk.addCue(1, 0, 0, false);
    }
    for (int lamp : new int[] {0, 1, 18, 19}) {
      takesBackSwap(desk, lamp);
      for (int night = 0; night < 4; night++) {
        takesBackHang(desk, night, lamp);
      }
    }
    for (int channel : new int[] {0, 1, 10, 11}) {
      takesBackLevel(desk, 0, 0, channel, 100);
      takesBackLevel(desk, 1, 0, channel, NONE);
      takesBackLevel(desk, 1, 9, channel, NONE);
    }
  }

  private static void takesBackSwap(LightDesk desk, int lamp) {
    desk.hang(0, lamp, 2);
    desk.swap(lamp, 20, 7);
    desk.swap(lamp, 3, 1);
    Expect.same("3 swapped " + lamp, desk.light(2), 285);
    desk.undo();
    Expect.same("9 power 20 and gel 7 of " + lamp, desk.light(2), 1300);
    desk.undo();
    Expect.same("9 power 1 and gel 0 of " + lamp, desk.light(2), 100);
    desk.undo();
    Expect.same("9 it does not hang", desk.light(2), 0);
  }

  private static void takesBackHang(LightDesk desk, int night, int lamp) {
    Expect.same("4 none before", desk.hang(night, lamp, 11), NONE);
    Expect.same("4 the last before", desk.hang(night, lamp, 0), 11);
    desk.undo();
    Expect.same("9 night " + night + ", lamp " + lamp, desk.hang(night, lamp, 5), 11);
    desk.undo();
    desk.undo();
    Expect.same("9 none in night " + night, desk.hang(night, lamp, 5), NONE);
    desk.undo();
  }

  private static void takesBackLevel(LightDesk desk, int list, int cue, int channel, int first) {
    Expect.same("8 before", desk.setLevel(list, cue, channel, 0), first);
    Expect.same("8 then", desk.setLevel(list, cue, channel, 99), 0);
    desk.undo();
    Expect.same("9 list " + list + ", cue " + cue, desk.setLevel(list, cue, channel, 5), 0);
    desk.undo();
    desk.undo();
    Expect.same("9 channel " + channel, desk.setLevel(list, cue, channel, 5), first);
    desk.undo();
  }

  /** Terms: "each call as one, also if it changes nothing". */
  private static void eachCallAsOneAlsoIfItChangesNothing() {
    LightDesk desk = lit(1);
    desk.hang(0, 0, 3);
    for (int i = 0; i < 5; i++) {
      desk.swap(0, 1, 0);
      Expect.same("4 the same channel", desk.hang(0, 0, 3), 3);
      Expect.same("4 none, again", desk.hang(1, 0, NONE), NONE);
      Expect.same("8 the same level", desk.setLevel(0, 0, 3, 100), 100);
    }
    for (int left = 19; left >= 0; left--) {
      Expect.same("9 nothing undone, counted", desk.undo(), left);
      Expect.same("9 nothing changes", desk.light(3), 100);
    }
    Expect.fails("9 the real one is out of reach", Expect.STATE, desk::undo);
    Expect.same("4 it stays", desk.hang(0, 0, 3), 3);
    Expect.same("9 the one change", desk.undo(), 0);
  }

  /** Promises 2, 5, 6 and 7: "this cannot be undone"; nor do looks, beginnings and time count. */
  private static void someCannotBeUndone() {
    LightDesk desk = new LightDesk();
    desk.addLamp(1, 0);
    desk.addCue(0, 1, 1, true);
    desk.setNight(1);
    desk.setLatest(0, true);
    desk.go(0, 0);
    desk.pass(1);
    desk.preview(0, 0, 0);
    desk.touched(0, 20, 7, 0);
    Expect.fails("9 none of these", Expect.STATE, desk::undo);
    desk.hang(1, 0, 0);
    desk.addLamp(2, 0);
    desk.addCue(0, 1, 1, true);
    desk.setNight(2);
    desk.setLatest(1, true);
    desk.go(0, 1);
    desk.pass(1);
    Expect.same("9 the hanging alone", desk.undo(), 0);
    Expect.same("9 the night stays", desk.setNight(0), 2);
    Expect.same("9 the latest stays", desk.setLatest(1, false), true);
    Expect.same("9 the lamps stay", desk.addLamp(3, 0), 2);
    Expect.same("9 the cues stay", desk.addCue(0, 0, 0, false), 2);
    Expect.same("9 the running cue stays", desk.running(0), 1);
    Expect.same("9 the hanging is gone", desk.hang(1, 0, 0), NONE);
  }

  /** Terms: "A method that throws an exception changes nothing", also not what can be undone. */
  private static void refusedCallsAreNoChanges() {
    LightDesk desk = lit(1);
    for (int left = 8; left >= 0; left--) {
      Expect.same("9 from 12", desk.undo(), left + 3);
    }
    desk.hang(0, 0, 0);
    for (int i = 0; i < 25; i++) {
      Expect.fails("3 refused", Expect.ARGUMENT, () -> desk.swap(0, 21, 0));
      Expect.fails("4 refused", Expect.ARGUMENT, () -> desk.hang(0, 0, 12));
      Expect.fails("8 refused", Expect.ARGUMENT, () -> desk.setLevel(0, 0, 0, 101));
    }
    Expect.same("9 the hanging", desk.undo(), 3);
    Expect.same("9 a level", desk.undo(), 2);
    Expect.same("8 undone", desk.setLevel(0, 0, 2, 1), NONE);
    Expect.same("8 not undone", desk.setLevel(0, 0, 1, 1), 100);
  }

  /** "What it is": "An object is used for at most 512 calls". */
  private static void theLastOfAllCalls() {
    LightDesk desk = new LightDesk();
    desk.addLamp(20, 0);
    desk.addCue(0, 0, 0, false);
    desk.hang(0, 0, 0);
    for (int call = 4; call <= 490; call++) {
      Expect.same("8 call " + call, desk.setLevel(0, 0, 0, call % 101), call == 4 ? NONE : (call - 1) % 101);
    }
    for (int left = 19; left >= 0; left--) {
      Expect.same("9 left", desk.undo(), left);
    }
    Expect.fails("9 call 511", Expect.STATE, desk::undo);
    Expect.same("17 call 512", desk.preview(0, 0, 0), 20 * (470 % 101));
  }
}
