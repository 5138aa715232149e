/** Promises 7 to 12: cues, their levels, undoing, beginning, time and what runs. */
public final class CuesTest {
  private static final int NONE = LightDesk.NONE;
  private static final int[] WRONG_LISTS = {-1, 2, Integer.MIN_VALUE, Integer.MAX_VALUE};
  private static final int[] WRONG_CHANNELS = {-1, 12, Integer.MIN_VALUE, Integer.MAX_VALUE};

  public static void main(String[] args) {
    promise7AddCue();
    promise7WrongCues();
    promise8SetLevel();
    promise8RunningCueKeepsItsLevels();
    promise8WrongLevels();
    promise9UndoesTheLastFirst();
    promise9UndoesTwentyAtMost();
    promise9LeavesLevelsAndTime();
    promise10Go();
    promise10FollowersAtOnce();
    promise10GoTurnsARunningFade();
    promise10WrongGoes();
    promise11FadesRoundTowardsZero();
    promise11FollowsInTime();
    promise11NextMustBeThereByThen();
    promise11WrongTenths();
    promise12Running();
    Expect.end("CuesTest");
  }

  private static LightDesk deskWithCue(int delay, int fade, int channel, int level) {
    LightDesk desk = new LightDesk();
    desk.addCue(0, delay, fade, false);
    desk.setLevel(0, 0, channel, level);
    return desk;
  }

  private static void promise7AddCue() {
    LightDesk desk = new LightDesk();
    for (int cue = 0; cue < 10; cue++) {
      Expect.same("7 number in list 0", desk.addCue(0, cue, 100 - cue, cue % 2 == 0), cue);
      Expect.same("7 number in list 1", desk.addCue(1, 100, 0, false), cue);
    }
    Expect.fails("7 the 11th", Expect.STATE, () -> desk.addCue(0, 0, 0, false));
    Expect.fails("7 the 11th", Expect.STATE, () -> desk.addCue(1, 0, 0, true));
    Expect.fails("7 the argument is documented first", Expect.ARGUMENT, () -> desk.addCue(1, 0, 101, true));
    Expect.fails("7 cannot be undone", Expect.STATE, desk::undo);
    for (int channel = 0; channel < 12; channel++) {
      Expect.same("7 without levels", desk.setLevel(1, 9, channel, NONE), NONE);
    }
    Expect.same("7 undo passes it by", desk.undo(), 11);
    Expect.fails("7 the cue stays", Expect.STATE, () -> desk.addCue(1, 0, 0, true));
  }

  private static void promise7WrongCues() {
    LightDesk desk = new LightDesk();
    for (int list : WRONG_LISTS) {
      Expect.fails("7 list " + list, Expect.ARGUMENT, () -> desk.addCue(list, 0, 0, true));
    }
    int[] tenths = {-1, 101, Integer.MIN_VALUE, Integer.MAX_VALUE};
    for (int t : tenths) {
      Expect.fails("7 delay " + t, Expect.ARGUMENT, () -> desk.addCue(0, t, 0, true));
      Expect.fails("7 fade " + t, Expect.ARGUMENT, () -> desk.addCue(1, 0, t, true));
    }
    Expect.same("7 none was added", desk.addCue(0, 100, 100, true), 0);
    Expect.same("7 none was added", desk.addCue(1, 0, 0, false), 0);
  }

  private static void promise8SetLevel() {
    LightDesk desk = deskWithCue(0, 0, 11, 100);
    desk.addCue(0, 0, 0, false);
    desk.addCue(1, 0, 0, false);
    Expect.same("8 before", desk.setLevel(0, 0, 11, 0), 100);
    Expect.same("8 a level of 0 is a level", desk.go(0, 0), 1);
    Expect.same("8 before", desk.setLevel(0, 0, 11, NONE), 0);
    Expect.same("8 none", desk.go(0, 0), 0);
    Expect.same("8 before", desk.setLevel(0, 0, 11, 7), NONE);
    Expect.same("8 other cue", desk.setLevel(0, 1, 11, 8), NONE);
    Expect.same("8 other list", desk.setLevel(1, 0, 11, 9), NONE);
    Expect.same("8 other channel", desk.setLevel(0, 0, 0, 10), NONE);
    Expect.same("8 same again", desk.setLevel(0, 0, 11, 7), 7);
    Expect.same("8 undo the equal one", desk.undo(), 7);
    Expect.same("8 undo channel 0", desk.undo(), 6);
    Expect.same("8 undo list 1", desk.undo(), 5);
    Expect.same("8 list 1 has none", desk.setLevel(1, 0, 11, 1), NONE);
    Expect.same("8 cue 1 keeps its own", desk.setLevel(0, 1, 11, 1), 8);
    Expect.same("8 channel 0 has none", desk.setLevel(0, 0, 0, 1), NONE);
    Expect.same("8 channel 11 keeps its own", desk.setLevel(0, 0, 11, 1), 7);
  }

  private static void promise8RunningCueKeepsItsLevels() {
    LightDesk desk = deskWithCue(2, 10, 0, 100);
    desk.go(0, 0);
    desk.pass(7);
    Expect.same("8 half way", desk.level(0, 0), 50);
    desk.setLevel(0, 0, 0, 10);
    desk.setLevel(0, 0, 1, 60);
    Expect.same("8 goes on", desk.level(0, 0), 50);
    desk.pass(5);
    Expect.same("8 to the level it began with", desk.level(0, 0), 100);
    Expect.same("8 without the new channel", desk.level(0, 1), 0);
    desk.setLevel(0, 0, 0, NONE);
    Expect.same("8 also when it is over", desk.level(0, 0), 100);
    desk.setLevel(0, 0, 0, 10);
    desk.go(0, 0);
    desk.pass(12);
    Expect.same("8 begun anew", desk.level(0, 0), 10);
    Expect.same("8 begun anew", desk.level(0, 1), 60);
  }

  private static void promise8WrongLevels() {
    LightDesk desk = deskWithCue(0, 0, 3, 50);
    for (int list : WRONG_LISTS) {
      Expect.fails("8 list " + list, Expect.ARGUMENT, () -> desk.setLevel(list, 0, 0, 0));
    }
    for (int channel : WRONG_CHANNELS) {
      Expect.fails("8 channel " + channel, Expect.ARGUMENT, () -> desk.setLevel(0, 0, channel, 0));
    }
    int[] levels = {-2, 101, Integer.MIN_VALUE, Integer.MAX_VALUE};
    for (int level : levels) {
      Expect.fails("8 level " + level, Expect.ARGUMENT, () -> desk.setLevel(0, 0, 3, level));
    }
    int[] cues = {-1, 1, 10, Integer.MIN_VALUE, Integer.MAX_VALUE};
    for (int cue : cues) {
      Expect.fails("8 cue " + cue, Expect.INDEX, () -> desk.setLevel(0, cue, 3, 0));
      Expect.fails("8 list first", Expect.ARGUMENT, () -> desk.setLevel(2, cue, 3, 0));
      Expect.fails("8 channel first", Expect.ARGUMENT, () -> desk.setLevel(0, cue, 12, 0));
      Expect.fails("8 level first", Expect.ARGUMENT, () -> desk.setLevel(0, cue, 3, 101));
    }
    Expect.fails("8 cue of the other list", Expect.INDEX, () -> desk.setLevel(1, 0, 3, 0));
    Expect.same("8 nothing to undo of it", desk.undo(), 0);
    Expect.same("8 undone", desk.setLevel(0, 0, 3, 1), NONE);
  }

  private static void promise9UndoesTheLastFirst() {
    LightDesk desk = new LightDesk();
    Expect.fails("9 nothing yet", Expect.STATE, desk::undo);
    desk.addLamp(10, 0);
    desk.addCue(0, 0, 0, false);
    desk.addCue(1, 0, 0, false);
    desk.setLevel(1, 0, 0, 40);
    desk.hang(0, 0, 0);
    desk.swap(0, 20, 0);
    desk.setLevel(0, 0, 0, 90);
    Expect.same("9 before", desk.preview(0, 0, 0), 1800);
    Expect.same("9 a level of list 0", desk.undo(), 3);
    Expect.same("9 gone", desk.preview(0, 0, 0), 0);
    Expect.same("9 list 1 stays", desk.preview(1, 0, 0), 800);
    Expect.same("9 a swap", desk.undo(), 2);
    Expect.same("9 old power", desk.preview(1, 0, 0), 400);
    Expect.same("9 a hanging", desk.undo(), 1);
    Expect.same("9 dark", desk.preview(1, 0, 0), 0);
    desk.hang(0, 0, 1);
    Expect.same("9 a new change takes its place", desk.undo(), 1);
    Expect.same("9 a level of list 1", desk.undo(), 0);
    Expect.same("9 gone", desk.setLevel(1, 0, 0, 1), NONE);
    Expect.same("9 the last", desk.undo(), 0);
    Expect.fails("9 none left", Expect.STATE, desk::undo);
  }

  private static void promise9UndoesTwentyAtMost() {
    LightDesk desk = deskWithCue(0, 0, 0, 0);
    for (int level = 1; level <= 50; level++) {
      desk.setLevel(0, 0, 0, level);
    }
    for (int left = 19; left >= 0; left--) {
      Expect.same("9 how many are left", desk.undo(), left);
    }
    Expect.fails("9 no more than 20", Expect.STATE, desk::undo);
    Expect.same("9 20 levels back", desk.setLevel(0, 0, 0, 99), 30);
    Expect.same("9 one anew", desk.undo(), 0);
    Expect.same("9 one back", desk.setLevel(0, 0, 0, 99), 30);
  }

  private static void promise9LeavesLevelsAndTime() {
    LightDesk desk = deskWithCue(0, 10, 0, 100);
    desk.go(0, 0);
    desk.pass(3);
    Expect.same("9 undone while it runs", desk.undo(), 0);
    Expect.same("9 same level", desk.level(0, 0), 30);
    Expect.same("9 still running", desk.running(0), 0);
    desk.pass(7);
    Expect.same("9 same end", desk.level(0, 0), 100);
    Expect.same("9 next time without", desk.go(0, 0), 0);
  }

  private static void promise10Go() {
    LightDesk desk = deskWithCue(0, 0, 3, 50);
    desk.addCue(1, 0, 0, false);
    Expect.same("10 one channel", desk.go(0, 0), 1);
    Expect.same("10 at once", desk.level(0, 3), 50);
    Expect.same("10 no channel", desk.go(1, 0), 0);
    Expect.same("10 the other list is another", desk.level(1, 3), 0);
    for (int channel = 0; channel < 12; channel++) {
      desk.setLevel(0, 0, channel, channel);
    }
    Expect.same("10 all channels", desk.go(0, 0), 12);
    Expect.same("10 nothing to undo of it", desk.undo(), 12);
  }

  private static void promise10FollowersAtOnce() {
    LightDesk desk = new LightDesk();
    for (int cue = 0; cue < 10; cue++) {
      desk.addCue(0, 0, 0, true);
      desk.setLevel(0, cue, cue, 10 + cue);
      desk.setLevel(0, cue, 11, cue);
    }
    Expect.same("10 only the cue itself", desk.go(0, 0), 2);
    Expect.same("10 the last", desk.running(0), 9);
    for (int channel = 0; channel < 10; channel++) {
      Expect.same("10 each had its turn", desk.level(0, channel), 10 + channel);
    }
    Expect.same("10 the last level", desk.level(0, 11), 9);
    Expect.same("10 no one left", desk.pass(1000), 0);
    desk.go(0, 5);
    Expect.same("10 from the middle", desk.running(0), 9);
    desk.addCue(1, 0, 0, false);
    desk.addCue(1, 0, 1, true);
    desk.addCue(1, 0, 0, true);
    desk.addCue(1, 0, 0, false);
    desk.go(1, 0);
    Expect.same("10 stops at one that takes time", desk.running(1), 1);
    Expect.same("10 goes on with time", desk.pass(1), 1);
    Expect.same("10 stops at one that does not follow", desk.running(1), 2);
  }

  private static void promise10GoTurnsARunningFade() {
    LightDesk desk = deskWithCue(0, 10, 0, 100);
    desk.setLevel(0, 0, 1, 50);
    desk.addCue(0, 2, 4, true);
    desk.setLevel(0, 1, 0, 0);
    desk.go(0, 0);
    desk.pass(6);
    Expect.same("10 ahead", desk.level(0, 0), 60);
    Expect.same("10 one channel", desk.go(0, 1), 1);
    Expect.same("10 from where it was", desk.level(0, 0), 60);
    Expect.same("10 the first does not end any more", desk.pass(4), 0);
    Expect.same("10 half way back", desk.level(0, 0), 30);
    Expect.same("10 without a level it stays", desk.level(0, 1), 30);
    desk.pass(100);
    Expect.same("10 at the end", desk.level(0, 0), 0);
    Expect.same("10 and stays", desk.level(0, 1), 30);
    desk.go(0, 0);
    desk.pass(5);
    desk.go(0, 0);
    Expect.same("10 the same cue anew", desk.level(0, 0), 50);
    desk.pass(5);
    Expect.same("10 from 50 to 100", desk.level(0, 0), 75);
  }

  private static void promise10WrongGoes() {
    LightDesk desk = deskWithCue(0, 10, 0, 100);
    desk.go(0, 0);
    desk.pass(5);
    for (int list : WRONG_LISTS) {
      Expect.fails("10 list " + list, Expect.ARGUMENT, () -> desk.go(list, 0));
      Expect.fails("10 list first", Expect.ARGUMENT, () -> desk.go(list, 10));
    }
    int[] cues = {-1, 1, 10, Integer.MIN_VALUE, Integer.MAX_VALUE};
    for (int cue : cues) {
      Expect.fails("10 cue " + cue, Expect.INDEX, () -> desk.go(0, cue));
    }
    Expect.fails("10 cue of the other list", Expect.INDEX, () -> desk.go(1, 0));
    Expect.same("10 nothing changed", desk.level(0, 0), 50);
    desk.pass(1);
    Expect.same("10 nothing changed", desk.level(0, 0), 60);
  }

  private static void promise11FadesRoundTowardsZero() {
    LightDesk desk = deskWithCue(3, 7, 0, 33);
    desk.addCue(0, 0, 7, false);
    desk.setLevel(0, 1, 0, 1);
    desk.go(0, 0);
    int[] up = {0, 0, 0, 4, 9, 14, 18, 23, 28, 33, 33};
    for (int due : up) {
      Expect.same("11 no one begins", desk.pass(1), 0);
      Expect.same("11 up", desk.level(0, 0), due);
    }
    desk.go(0, 1);
    int[] down = {29, 24, 20, 15, 11, 6, 1, 1};
    for (int due : down) {
      desk.pass(1);
      Expect.same("11 down", desk.level(0, 0), due);
    }
    LightDesk hard = deskWithCue(4, 0, 0, 80);
    hard.go(0, 0);
    hard.pass(3);
    Expect.same("11 waits", hard.level(0, 0), 0);
    hard.pass(1);
    Expect.same("11 no fade", hard.level(0, 0), 80);
    LightDesk shortest = deskWithCue(1, 1, 0, 80);
    shortest.go(0, 0);
    shortest.pass(1);
    Expect.same("11 its fade begins", shortest.level(0, 0), 0);
    shortest.pass(1);
    Expect.same("11 its fade is over", shortest.level(0, 0), 80);
    LightDesk longest = deskWithCue(100, 100, 0, 100);
    longest.go(0, 0);
    longest.pass(199);
    Expect.same("11 ahead of the end", longest.level(0, 0), 99);
    longest.pass(1000);
    Expect.same("11 far behind the end", longest.level(0, 0), 100);
  }

  private static void promise11FollowsInTime() {
    LightDesk desk = new LightDesk();
    desk.addCue(0, 2, 3, true);
    desk.addCue(0, 1, 0, true);
    desk.addCue(0, 0, 0, true);
    desk.addCue(0, 0, 4, true);
    desk.addCue(0, 0, 0, false);
    desk.addCue(0, 0, 0, true);
    desk.addCue(1, 0, 5, false);
    desk.addCue(1, 0, 0, true);
    desk.setLevel(0, 3, 0, 100);
    Expect.same("11 no one begins by itself", desk.pass(1000), 0);
    desk.go(0, 0);
    desk.go(1, 0);
    Expect.same("11 not yet", desk.pass(4), 0);
    Expect.same("11 both lists", desk.pass(1), 2);
    Expect.same("11 list 0", desk.running(0), 1);
    Expect.same("11 list 1", desk.running(1), 1);
    Expect.same("11 two in a tenth", desk.pass(1), 2);
    Expect.same("11 list 0", desk.running(0), 3);
    Expect.same("11 begins at that tenth", desk.level(0, 0), 0);
    Expect.same("11 fades from there", desk.pass(1), 0);
    Expect.same("11 a quarter", desk.level(0, 0), 25);
    Expect.same("11 the next does not follow", desk.pass(1000), 0);
    Expect.same("11 list 0", desk.running(0), 3);
    desk.go(0, 0);
    desk.go(1, 0);
    Expect.same("11 all in one call", desk.pass(1000), 4);
    Expect.same("11 at the end", desk.level(0, 0), 100);
  }

  private static void promise11NextMustBeThereByThen() {
    LightDesk desk = new LightDesk();
    desk.addCue(0, 0, 5, false);
    desk.addCue(1, 0, 5, false);
    desk.go(0, 0);
    desk.go(1, 0);
    desk.pass(4);
    desk.addCue(0, 0, 3, true);
    Expect.same("11 there in time", desk.pass(1), 1);
    desk.addCue(1, 0, 3, true);
    Expect.same("11 too late", desk.pass(100), 0);
    Expect.same("11 list 1", desk.running(1), 0);
    desk.go(0, 1);
    desk.pass(3);
    desk.addCue(0, 0, 0, true);
    Expect.same("11 too late", desk.pass(1), 0);
  }

  private static void promise11WrongTenths() {
    LightDesk desk = deskWithCue(0, 10, 0, 100);
    desk.go(0, 0);
    int[] tenths = {0, -1, 1001, Integer.MIN_VALUE, Integer.MAX_VALUE};
    for (int t : tenths) {
      Expect.fails("11 tenths " + t, Expect.ARGUMENT, () -> desk.pass(t));
    }
    Expect.same("11 no time went", desk.level(0, 0), 0);
    desk.pass(1);
    Expect.same("11 one tenth", desk.level(0, 0), 10);
    desk.pass(1000);
    Expect.same("11 all", desk.level(0, 0), 100);
  }

  private static void promise12Running() {
    LightDesk desk = deskWithCue(0, 5, 0, 100);
    desk.addCue(0, 0, 0, false);
    desk.addCue(1, 0, 0, false);
    Expect.same("12 none", desk.running(0), NONE);
    desk.go(0, 1);
    Expect.same("12 begun last", desk.running(0), 1);
    Expect.same("12 none in list 1", desk.running(1), NONE);
    desk.go(0, 0);
    Expect.same("12 begun last", desk.running(0), 0);
    desk.pass(1000);
    Expect.same("12 also when it is over", desk.running(0), 0);
    desk.go(1, 0);
    Expect.same("12 list 1", desk.running(1), 0);
    for (int list : WRONG_LISTS) {
      Expect.fails("12 list " + list, Expect.ARGUMENT, () -> desk.running(list));
    }
  }
}
