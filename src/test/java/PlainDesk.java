import java.util.ArrayList;
import java.util.List;

/**
 * The document's words once more, slow and by another way: changes are a log that is replayed, begun cues are a
 * log with the time at which each began. Nothing here is shared with LightDesk.
 */
final class PlainDesk {
  private static final int NONE = -1;

  private record Kind(int power, int gel) {
  }

  private record Cue(int delay, int fade, boolean follows) {
  }

  /** What: 's' a swap, 'h' a hanging, 'l' a level. */
  private record Change(char what, int a, int b, int c, int d) {
  }

  private record Begun(int list, int cue, long at, int[] old, int[] told) {
  }

  /** What stands after all changes. */
  private static final class Standing {
    final Kind[] kinds = new Kind[20];
    final int[][] rig = new int[4][20];
    final int[][][] told = new int[2][10][12];
  }

  private final List<Kind> lamps = new ArrayList<>();
  private final List<List<Cue>> cues = List.of(new ArrayList<>(), new ArrayList<>());
  private final List<Change> changes = new ArrayList<>();
  private final List<Begun> begun = new ArrayList<>();
  private final boolean[] latest = new boolean[12];
  private int undoable;
  private int night;
  private long now;

  private static void need(boolean holds) {
    if (!holds) {
      throw new IllegalArgumentException();
    }
  }

  private static void needIndex(int index, List<?> list) {
    if (index < 0 || index >= list.size()) {
      throw new IndexOutOfBoundsException();
    }
  }

  private static void needState(boolean holds) {
    if (!holds) {
      throw new IllegalStateException();
    }
  }

  private static boolean within(int value, int from, int to) {
    return from <= value && value <= to;
  }

  private static void needKind(int power, int gel) {
    need(within(power, 1, 20) && within(gel, 0, 7));
  }

  private Standing standing() {
    Standing s = new Standing();
    for (int lamp = 0; lamp < lamps.size(); lamp++) {
      s.kinds[lamp] = lamps.get(lamp);
    }
    for (int[] row : s.rig) {
      java.util.Arrays.fill(row, NONE);
    }
    for (int[][] rows : s.told) {
      for (int[] row : rows) {
        java.util.Arrays.fill(row, NONE);
      }
    }
    for (Change c : changes) {
      switch (c.what) {
        case 's' -> s.kinds[c.a] = new Kind(c.b, c.c);
        case 'h' -> s.rig[c.a][c.b] = c.c;
        default -> s.told[c.a][c.b][c.c] = c.d;
      }
    }
    return s;
  }

  private void change(Change change) {
    changes.add(change);
    undoable = Math.min(20, undoable + 1);
  }

  int addLamp(int power, int gel) {
    needKind(power, gel);
    needState(lamps.size() < 20);
    lamps.add(new Kind(power, gel));
    return lamps.size() - 1;
  }

  void swap(int lamp, int power, int gel) {
    needIndex(lamp, lamps);
    needKind(power, gel);
    change(new Change('s', lamp, power, gel, 0));
  }

  int hang(int inNight, int lamp, int channel) {
    needIndex(lamp, lamps);
    need(within(inNight, 0, 3) && within(channel, NONE, 11));
    int before = standing().rig[inNight][lamp];
    change(new Change('h', inNight, lamp, channel, 0));
    return before;
  }

  int setNight(int to) {
    need(within(to, 0, 3));
    int before = night;
    night = to;
    return before;
  }

  boolean setLatest(int channel, boolean counts) {
    need(within(channel, 0, 11));
    boolean before = latest[channel];
    latest[channel] = counts;
    return before;
  }

  int addCue(int list, int delay, int fade, boolean follows) {
    need(within(list, 0, 1) && within(delay, 0, 100) && within(fade, 0, 100));
    needState(cues.get(list).size() < 10);
    cues.get(list).add(new Cue(delay, fade, follows));
    return cues.get(list).size() - 1;
  }

  int setLevel(int list, int cue, int channel, int level) {
    need(within(list, 0, 1) && within(channel, 0, 11) && within(level, NONE, 100));
    needIndex(cue, cues.get(list));
    int before = standing().told[list][cue][channel];
    change(new Change('l', list, cue, channel, level));
    return before;
  }

  int undo() {
    needState(undoable > 0);
    changes.remove(changes.size() - 1);
    undoable--;
    return undoable;
  }

  int go(int list, int cue) {
    need(within(list, 0, 1));
    needIndex(cue, cues.get(list));
    int count = 0;
    for (int level : standing().told[list][cue]) {
      count += level == NONE ? 0 : 1;
    }
    begin(list, cue);
    return count;
  }

  int pass(int tenths) {
    need(within(tenths, 1, 1000));
    int before = begun.size();
    for (int i = 0; i < tenths; i++) {
      now++;
      look(0);
      look(1);
    }
    return begun.size() - before;
  }

  private void begin(int list, int cue) {
    int[] old = new int[12];
    for (int channel = 0; channel < 12; channel++) {
      old[channel] = level(list, channel);
    }
    begun.add(new Begun(list, cue, now, old, standing().told[list][cue].clone()));
    look(list);
  }

  private void look(int list) {
    Begun last = last(list);
    if (last == null) {
      return;
    }
    Cue cue = cues.get(list).get(last.cue);
    int next = last.cue + 1;
    boolean ends = last.at + cue.delay + cue.fade == now;
    if (ends && next < cues.get(list).size() && cues.get(list).get(next).follows) {
      begin(list, next);
    }
  }

  private Begun last(int list) {
    for (int i = begun.size() - 1; i >= 0; i--) {
      if (begun.get(i).list == list) {
        return begun.get(i);
      }
    }
    return null;
  }

  int running(int list) {
    need(within(list, 0, 1));
    Begun last = last(list);
    return last == null ? NONE : last.cue;
  }

  int level(int list, int channel) {
    need(within(list, 0, 1) && within(channel, 0, 11));
    Begun last = last(list);
    if (last == null) {
      return 0;
    }
    int old = last.old[channel];
    int told = last.told[channel];
    Cue cue = cues.get(list).get(last.cue);
    long since = now - last.at;
    if (told == NONE || since < cue.delay) {
      return old;
    }
    if (since >= cue.delay + cue.fade) {
      return told;
    }
    long part = Math.abs(told - old) * (since - cue.delay) / cue.fade;
    return (int) (told > old ? old + part : old - part);
  }

  int merged(int channel) {
    need(within(channel, 0, 11));
    if (!latest[channel]) {
      return Math.max(level(0, channel), level(1, channel));
    }
    int list = 0;
    for (Begun b : begun) {
      list = b.told[channel] == NONE ? list : b.list;
    }
    return level(list, channel);
  }

  private int[] mergedLevels() {
    int[] levels = new int[12];
    for (int channel = 0; channel < 12; channel++) {
      levels[channel] = merged(channel);
    }
    return levels;
  }

  private static int shine(Kind kind, int level) {
    return Math.floorDiv(kind.power * level * (100 - kind.gel * 5), 100);
  }

  private int lightOf(Standing s, int inNight, int[] levels) {
    int sum = 0;
    for (int lamp = 0; lamp < lamps.size(); lamp++) {
      int channel = s.rig[inNight][lamp];
      sum += channel == NONE ? 0 : shine(s.kinds[lamp], Math.max(0, levels[channel]));
    }
    return sum;
  }

  int light(int channel) {
    need(within(channel, 0, 11));
    int[] levels = new int[12];
    levels[channel] = merged(channel);
    return lightOf(standing(), night, levels);
  }

  int allLight() {
    return lightOf(standing(), night, mergedLevels());
  }

  int preview(int list, int cue, int inNight) {
    need(within(list, 0, 1) && within(inNight, 0, 3));
    needIndex(cue, cues.get(list));
    Standing s = standing();
    return lightOf(s, inNight, s.told[list][cue]);
  }

  int touched(int lamp, int power, int gel, int inNight) {
    needIndex(lamp, lamps);
    needKind(power, gel);
    need(within(inNight, 0, 3));
    Standing before = standing();
    Standing after = standing();
    after.kinds[lamp] = new Kind(power, gel);
    int count = 0;
    for (int list = 0; list < 2; list++) {
      for (int cue = 0; cue < cues.get(list).size(); cue++) {
        int[] told = before.told[list][cue];
        count += lightOf(before, inNight, told) == lightOf(after, inNight, told) ? 0 : 1;
      }
    }
    return count;
  }
}
