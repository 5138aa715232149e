/** Promises 1 to 6: a new desk, lamps, swaps, hanging, nights and which level counts. */
public final class RigTest {
  private static final int NONE = LightDesk.NONE;

  public static void main(String[] args) {
    promise1NewDesk();
    promise2AddLamp();
    promise2WrongLamps();
    promise3Swap();
    promise3WrongSwaps();
    promise4Hang();
    promise4WrongHangs();
    promise5SetNight();
    promise6SetLatest();
    Expect.end("RigTest");
  }

  /** One lamp of power 10 without loss, hung on channel 0 in night 0, at a level of 100. */
  private static LightDesk litDesk() {
    LightDesk desk = new LightDesk();
    desk.addLamp(10, 0);
    desk.hang(0, 0, 0);
    desk.addCue(0, 0, 0, false);
    desk.setLevel(0, 0, 0, 100);
    desk.go(0, 0);
    return desk;
  }

  private static void promise1NewDesk() {
    Expect.same("NONE", LightDesk.NONE, -1);
    LightDesk desk = new LightDesk();
    for (int list = 0; list < 2; list++) {
      int l = list;
      Expect.same("1 running", desk.running(list), NONE);
      Expect.fails("1 no cue to go to", Expect.INDEX, () -> desk.go(l, 0));
      for (int channel = 0; channel < 12; channel++) {
        Expect.same("1 level", desk.level(list, channel), 0);
      }
    }
    for (int channel = 0; channel < 12; channel++) {
      Expect.same("1 merged", desk.merged(channel), 0);
      Expect.same("1 light", desk.light(channel), 0);
      Expect.same("1 the highest counts", desk.setLatest(channel, false), false);
    }
    Expect.same("1 allLight", desk.allLight(), 0);
    Expect.fails("1 no lamp", Expect.INDEX, () -> desk.swap(0, 1, 0));
    Expect.fails("1 nothing to undo", Expect.STATE, desk::undo);
    Expect.same("1 time goes on without cues", desk.pass(1000), 0);
    Expect.same("1 night 0", desk.setNight(0), 0);
    Expect.same("1 first lamp", desk.addLamp(1, 0), 0);
    Expect.same("1 first cue", desk.addCue(1, 0, 0, false), 0);
  }

  private static void promise2AddLamp() {
    LightDesk desk = new LightDesk();
    for (int lamp = 0; lamp < 20; lamp++) {
      Expect.same("2 number", desk.addLamp(lamp + 1, lamp % 8), lamp);
    }
    Expect.fails("2 the 21st", Expect.STATE, () -> desk.addLamp(1, 0));
    Expect.fails("2 the argument is documented first", Expect.ARGUMENT, () -> desk.addLamp(0, 0));
    Expect.fails("2 cannot be undone", Expect.STATE, desk::undo);
    for (int night = 0; night < 4; night++) {
      for (int lamp = 0; lamp < 20; lamp++) {
        Expect.same("2 hangs on none at first", desk.hang(night, lamp, NONE), NONE);
      }
    }
    LightDesk lit = litDesk();
    Expect.same("2 a second lamp", lit.addLamp(20, 7), 1);
    lit.hang(0, 1, 0);
    Expect.same("2 keeps power and gel", lit.light(0), 1000 + 20 * 65);
    Expect.same("2 undo passes it by", lit.undo(), 2);
    Expect.same("2 the lamp stays", lit.addLamp(1, 1), 2);
  }

  private static void promise2WrongLamps() {
    LightDesk desk = new LightDesk();
    int[] powers = {0, -1, 21, Integer.MIN_VALUE, Integer.MAX_VALUE};
    int[] gels = {-1, 8, Integer.MIN_VALUE, Integer.MAX_VALUE};
    for (int power : powers) {
      Expect.fails("2 power " + power, Expect.ARGUMENT, () -> desk.addLamp(power, 0));
    }
    for (int gel : gels) {
      Expect.fails("2 gel " + gel, Expect.ARGUMENT, () -> desk.addLamp(1, gel));
    }
    Expect.same("2 none was added", desk.addLamp(1, 0), 0);
    Expect.same("2 greatest", desk.addLamp(20, 7), 1);
  }

  private static void promise3Swap() {
    LightDesk desk = litDesk();
    desk.swap(0, 20, 7);
    Expect.same("3 another kind", desk.light(0), 20 * 65);
    desk.swap(0, 1, 0);
    Expect.same("3 again", desk.light(0), 100);
    desk.swap(0, 1, 0);
    Expect.same("3 an equal swap counts for undo", desk.undo(), 4);
    Expect.same("3 and changes nothing", desk.light(0), 100);
    Expect.same("3 undone", desk.undo(), 3);
    Expect.same("3 the kind before", desk.light(0), 20 * 65);
    Expect.same("3 undone", desk.undo(), 2);
    Expect.same("3 the first kind", desk.light(0), 1000);
    Expect.same("3 still hangs there", desk.hang(0, 0, 5), 0);
    swapAmongTwenty();
  }

  private static void swapAmongTwenty() {
    LightDesk desk = litDesk();
    for (int lamp = 1; lamp < 20; lamp++) {
      desk.addLamp(1, 0);
    }
    desk.hang(0, 19, 0);
    desk.swap(19, 5, 0);
    desk.swap(0, 20, 0);
    desk.swap(5, 20, 0);
    Expect.same("3 each lamp its own", desk.light(0), 2500);
    Expect.same("3 undo lamp 5", desk.undo(), 5);
    Expect.same("3 lamp 5 hangs on none", desk.light(0), 2500);
    Expect.same("3 undo lamp 0", desk.undo(), 4);
    Expect.same("3 lamp 0 as before", desk.light(0), 1500);
    Expect.same("3 undo lamp 19", desk.undo(), 3);
    Expect.same("3 lamp 19 as before", desk.light(0), 1100);
  }

  private static void promise3WrongSwaps() {
    LightDesk desk = litDesk();
    int[] lamps = {-1, 1, 20, Integer.MIN_VALUE, Integer.MAX_VALUE};
    for (int lamp : lamps) {
      Expect.fails("3 lamp " + lamp, Expect.INDEX, () -> desk.swap(lamp, 1, 0));
      Expect.fails("3 lamp first", Expect.INDEX, () -> desk.swap(lamp, 0, 8));
    }
    Expect.fails("3 power 0", Expect.ARGUMENT, () -> desk.swap(0, 0, 0));
    Expect.fails("3 power 21", Expect.ARGUMENT, () -> desk.swap(0, 21, 0));
    Expect.fails("3 gel -1", Expect.ARGUMENT, () -> desk.swap(0, 1, -1));
    Expect.fails("3 gel 8", Expect.ARGUMENT, () -> desk.swap(0, 1, 8));
    Expect.same("3 nothing changed", desk.light(0), 1000);
    Expect.same("3 nothing to undo of it", desk.undo(), 1);
  }

  private static void promise4Hang() {
    LightDesk desk = litDesk();
    Expect.same("4 before", desk.hang(0, 0, 11), 0);
    Expect.same("4 moved away", desk.light(0), 0);
    Expect.same("4 other night", desk.hang(3, 0, 4), NONE);
    Expect.same("4 a rig for each night", desk.hang(0, 0, NONE), 11);
    Expect.same("4 hangs on none", desk.hang(0, 0, 0), NONE);
    Expect.same("4 same channel again", desk.hang(0, 0, 0), 0);
    Expect.same("4 night 3", desk.hang(3, 0, 0), 4);
    Expect.same("4 undo night 3", desk.undo(), 7);
    Expect.same("4 undo an equal one", desk.undo(), 6);
    Expect.same("4 it stays lit", desk.light(0), 1000);
    Expect.same("4 undo to none", desk.undo(), 5);
    Expect.same("4 dark", desk.light(0), 0);
    Expect.same("4 undo to 11", desk.undo(), 4);
    Expect.same("4 undo night 3 again", desk.undo(), 3);
    Expect.same("4 night 3 has none", desk.hang(3, 0, 1), NONE);
    Expect.same("4 night 0 has 11", desk.hang(0, 0, 1), 11);
  }

  private static void promise4WrongHangs() {
    LightDesk desk = litDesk();
    int[] lamps = {-1, 1, 20, Integer.MIN_VALUE, Integer.MAX_VALUE};
    for (int lamp : lamps) {
      Expect.fails("4 lamp " + lamp, Expect.INDEX, () -> desk.hang(0, lamp, 0));
      Expect.fails("4 lamp ahead of night", Expect.INDEX, () -> desk.hang(4, lamp, 0));
      Expect.fails("4 lamp ahead of channel", Expect.INDEX, () -> desk.hang(0, lamp, 12));
    }
    int[] nights = {-1, 4, Integer.MIN_VALUE, Integer.MAX_VALUE};
    for (int night : nights) {
      Expect.fails("4 night " + night, Expect.ARGUMENT, () -> desk.hang(night, 0, 0));
    }
    int[] channels = {-2, 12, Integer.MIN_VALUE, Integer.MAX_VALUE};
    for (int channel : channels) {
      Expect.fails("4 channel " + channel, Expect.ARGUMENT, () -> desk.hang(0, 0, channel));
    }
    Expect.same("4 nothing changed", desk.light(0), 1000);
    Expect.same("4 nothing to undo of it", desk.undo(), 1);
  }

  private static void promise5SetNight() {
    LightDesk desk = litDesk();
    Expect.same("5 first", desk.setNight(3), 0);
    Expect.same("5 another rig", desk.light(0), 0);
    desk.hang(3, 0, 0);
    Expect.same("5 rig of night 3", desk.light(0), 1000);
    Expect.same("5 second", desk.setNight(1), 3);
    Expect.same("5 undo leaves the night", desk.undo(), 2);
    Expect.same("5 same again", desk.setNight(1), 1);
    int[] nights = {-1, 4, Integer.MIN_VALUE, Integer.MAX_VALUE};
    for (int night : nights) {
      Expect.fails("5 night " + night, Expect.ARGUMENT, () -> desk.setNight(night));
    }
    Expect.same("5 nothing changed", desk.setNight(2), 1);
    Expect.same("5 not counted for undo", desk.undo(), 1);
  }

  private static void promise6SetLatest() {
    LightDesk desk = litDesk();
    desk.addCue(1, 0, 0, false);
    desk.setLevel(1, 0, 0, 30);
    desk.go(1, 0);
    Expect.same("6 at first the highest", desk.merged(0), 100);
    Expect.same("6 set", desk.setLatest(0, true), false);
    Expect.same("6 the latest", desk.merged(0), 30);
    Expect.same("6 other channels stay", desk.setLatest(11, false), false);
    Expect.same("6 set again", desk.setLatest(0, true), true);
    Expect.same("6 undo passes it by", desk.undo(), 2);
    Expect.same("6 still the latest", desk.merged(0), 30);
    int[] channels = {-1, 12, Integer.MIN_VALUE, Integer.MAX_VALUE};
    for (int channel : channels) {
      Expect.fails("6 channel " + channel, Expect.ARGUMENT, () -> desk.setLatest(channel, true));
    }
    Expect.same("6 set back", desk.setLatest(0, false), true);
    Expect.same("6 the highest", desk.merged(0), 100);
    Expect.same("6 last channel", desk.setLatest(11, true), false);
    Expect.same("6 last channel", desk.setLatest(11, true), true);
  }
}
