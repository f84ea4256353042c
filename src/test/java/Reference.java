import java.util.ArrayDeque;
import java.util.ArrayList;
import java.util.Collections;
import java.util.Deque;
import java.util.List;
import java.util.NoSuchElementException;
import java.util.regex.Matcher;
import java.util.regex.Pattern;

/**
 * The document again, written as naively as can be and in other ways than the class: by counting
 * over all settings, by copies of everything, and with regular expressions. ReferenceTest compares
 * both.
 */
public final class Reference {

  private static final String COMMAND =
      "(door [0-9]{3}|turn [0-9]{2}[+-][0-9]|try [0-9]|shut [0-9]|damp [0-9]|bake [0-9] [0-9]"
          + "|hour( [0-9][0-9]?)?|set [0-9] [0-9]{3})";
  private static final Pattern SCRIPT = Pattern.compile(COMMAND + "(;" + COMMAND + ")*");

  private static final class State {
    List<int[]> dials = new ArrayList<>();
    List<int[]> combinations = new ArrayList<>();
    List<Boolean> open = new ArrayList<>();
    List<Integer> crumbs = new ArrayList<>();
    Integer[] ovenDoor = new Integer[2];
    int[] ovenHours = new int[2];
    List<Object[]> record = new ArrayList<>();
    int damp;
    int hour;
    int tries;
    int opened;
    int baked;

    State copy() {
      State copy = new State();
      for (int[] row : dials) {
        copy.dials.add(row.clone());
      }
      for (int[] row : combinations) {
        copy.combinations.add(row.clone());
      }
      copy.open.addAll(open);
      copy.crumbs.addAll(crumbs);
      copy.ovenDoor = ovenDoor.clone();
      copy.ovenHours = ovenHours.clone();
      copy.record.addAll(record);
      copy.damp = damp;
      copy.hour = hour;
      copy.tries = tries;
      copy.opened = opened;
      copy.baked = baked;
      return copy;
    }
  }

  private State now = new State();
  private State saved;
  private final Deque<State> undoable = new ArrayDeque<>();
  private String buffer = "";
  private String text = "";
  private Integer error;
  private Integer failed;

  private void index(int index, int count) {
    if (index < 0 || index >= count) {
      throw new IndexOutOfBoundsException();
    }
  }

  private void door(int door) {
    index(door, now.dials.size());
  }

  private void argument(boolean good) {
    if (!good) {
      throw new IllegalArgumentException();
    }
  }

  private void state(boolean good) {
    if (!good) {
      throw new IllegalStateException();
    }
  }

  private void supported(boolean good) {
    if (!good) {
      throw new UnsupportedOperationException();
    }
  }

  private void element(boolean good) {
    if (!good) {
      throw new NoSuchElementException();
    }
  }

  private static boolean position(int... positions) {
    for (int position : positions) {
      if (position < 0 || position > 9) {
        return false;
      }
    }
    return true;
  }

  private void changed() {
    undoable.push(now.copy());
    while (undoable.size() > 8) {
      undoable.removeLast();
    }
  }

  private static int distance(int from, int to) {
    int up = 0;
    for (int at = from; at != to; at = at == 9 ? 0 : at + 1) {
      up++;
    }
    int down = 0;
    for (int at = from; at != to; at = at == 0 ? 9 : at - 1) {
      down++;
    }
    return Math.min(up, down);
  }

  private boolean fits(int door, int dial, int position, int crumbs) {
    return distance(position, now.combinations.get(door)[dial]) <= crumbs / 5;
  }

  private int misfits(int door, int crumbs) {
    int misfits = 0;
    for (int dial = 0; dial < 3; dial++) {
      misfits += fits(door, dial, now.dials.get(door)[dial], crumbs) ? 0 : 1;
    }
    return misfits;
  }

  public int addDoor(int first, int second, int third) {
    argument(position(first, second, third));
    state(now.dials.size() < 6);
    changed();
    now.dials.add(new int[3]);
    now.combinations.add(new int[] {first, second, third});
    now.open.add(false);
    now.crumbs.add(0);
    return now.dials.size() - 1;
  }

  public int turn(int door, int dial, int steps) {
    door(door);
    index(dial, 3);
    argument(Math.abs((long) steps) <= 9);
    state(!isBaking(door));
    changed();
    int[] dials = now.dials.get(door);
    for (int step = 0; step < Math.abs(steps); step++) {
      dials[dial] = Math.floorMod(dials[dial] + Integer.signum(steps), 10);
    }
    return dials[dial];
  }

  public boolean tryLock(int door) {
    door(door);
    state(!now.open.get(door));
    changed();
    int misfits = misfits(door, now.crumbs.get(door));
    boolean opens = misfits == 0;
    now.crumbs.set(door, Math.min(20, now.crumbs.get(door) + misfits));
    now.open.set(door, opens || now.crumbs.get(door) == 20);
    now.record.add(new Object[] {door, opens});
    now.tries++;
    now.opened += opens ? 1 : 0;
    return opens;
  }

  public int shut(int door) {
    door(door);
    state(now.open.get(door) && !isBaking(door));
    supported(now.crumbs.get(door) < 20);
    changed();
    now.open.set(door, false);
    return shutLocks();
  }

  public int setCombination(int door, int first, int second, int third) {
    door(door);
    argument(position(first, second, third));
    state(now.open.get(door) && !isBaking(door));
    changed();
    int[] old = now.combinations.get(door);
    now.combinations.set(door, new int[] {first, second, third});
    return (old[0] != first ? 1 : 0) + (old[1] != second ? 1 : 0) + (old[2] != third ? 1 : 0);
  }

  public int setDamp(int damp) {
    argument(position(damp));
    changed();
    int previous = now.damp;
    now.damp = damp;
    return previous;
  }

  public int bake(int door, int oven) {
    door(door);
    index(oven, 2);
    state(!isBaking(door));
    supported(now.ovenDoor[oven] == null);
    changed();
    now.ovenDoor[oven] = door;
    now.ovenHours[oven] = (4 + now.crumbs.get(door)) / 4;
    now.open.set(door, true);
    return now.ovenHours[oven];
  }

  public int passHours(int hours) {
    argument(hours >= 1 && hours <= 60);
    changed();
    int before = now.baked;
    for (int hour = 0; hour < hours; hour++) {
      passHour();
    }
    return now.baked - before;
  }

  private void passHour() {
    now.hour++;
    for (int door = 0; door < now.dials.size(); door++) {
      if (!now.open.get(door) && now.hour % (10 - now.damp) == 0) {
        int[] dials = now.dials.get(door);
        dials[now.hour % 3] = (dials[now.hour % 3] + 1) % 10;
      }
    }
    for (int oven = 0; oven < 2; oven++) {
      if (now.ovenDoor[oven] != null && --now.ovenHours[oven] == 0) {
        now.dials.set(now.ovenDoor[oven], new int[3]);
        now.crumbs.set(now.ovenDoor[oven], 0);
        now.open.set(now.ovenDoor[oven], false);
        now.ovenDoor[oven] = null;
        now.baked++;
      }
    }
  }

  public int doorCount() {
    return now.dials.size();
  }

  public int dial(int door, int dial) {
    door(door);
    index(dial, 3);
    return now.dials.get(door)[dial];
  }

  public int combination(int door, int dial) {
    door(door);
    index(dial, 3);
    return now.combinations.get(door)[dial];
  }

  public boolean isOpen(int door) {
    door(door);
    return now.open.get(door);
  }

  public boolean isBroken(int door) {
    return crumbs(door) == 20;
  }

  public int crumbs(int door) {
    door(door);
    return now.crumbs.get(door);
  }

  public int play(int door) {
    return crumbs(door) / 5;
  }

  public int fittingDials(int door) {
    return 3 - misfits(door, crumbs(door));
  }

  public int stepsToOpen(int door) {
    door(door);
    int fewest = 30;
    for (int setting = 0; setting < 1000; setting++) {
      if (opensWith(door, setting)) {
        int[] dials = now.dials.get(door);
        int steps = distance(dials[0], setting / 100)
            + distance(dials[1], setting / 10 % 10) + distance(dials[2], setting % 10);
        fewest = Math.min(fewest, steps);
      }
    }
    return fewest;
  }

  public int stepsToOpenByTurning(int door) {
    return stepsToOpen(door);
  }

  private boolean opensWith(int door, int setting) {
    int crumbs = now.crumbs.get(door);
    return fits(door, 0, setting / 100, crumbs) && fits(door, 1, setting / 10 % 10, crumbs)
        && fits(door, 2, setting % 10, crumbs);
  }

  public int openingSettings(int door) {
    door(door);
    int count = 0;
    for (int setting = 0; setting < 1000; setting++) {
      count += opensWith(door, setting) ? 1 : 0;
    }
    return count;
  }

  public int triesUntilBroken(int door) {
    int crumbs = crumbs(door);
    int tries = 0;
    while (crumbs < 20) {
      element(misfits(door, crumbs) > 0);
      crumbs += misfits(door, crumbs);
      tries++;
    }
    return tries;
  }

  public int dialAfter(int door, int dial, int hours) {
    door(door);
    index(dial, 3);
    argument(hours >= 0 && hours <= 60);
    State before = now;
    now = before.copy();
    for (int hour = 0; hour < hours; hour++) {
      passHour();
    }
    int position = now.dials.get(door)[dial];
    now = before;
    return position;
  }

  public int hoursUntilFitting(int door) {
    door(door);
    State before = now;
    now = before.copy();
    int hours = 0;
    while (hours <= 60 && misfits(door, now.crumbs.get(door)) > 0) {
      passHour();
      hours++;
    }
    now = before;
    element(hours <= 60);
    return hours;
  }

  public int bakedDoor(int oven) {
    index(oven, 2);
    element(now.ovenDoor[oven] != null);
    return now.ovenDoor[oven];
  }

  public int bakingHours(int oven) {
    index(oven, 2);
    return now.ovenDoor[oven] == null ? 0 : now.ovenHours[oven];
  }

  public boolean isBaking(int door) {
    door(door);
    Integer index = door;
    return index.equals(now.ovenDoor[0]) || index.equals(now.ovenDoor[1]);
  }

  public int doorByCrumbs(int rank) {
    List<Integer> doors = new ArrayList<>();
    for (int door = 0; door < now.dials.size(); door++) {
      doors.add(door);
    }
    Collections.sort(doors, (a, b) -> {
      int byCrumbs = now.crumbs.get(b) - now.crumbs.get(a);
      return byCrumbs != 0 ? byCrumbs : stepsToOpen(a) - stepsToOpen(b);
    });
    element(rank >= 0 && rank < doors.size());
    return doors.get(rank);
  }

  public int rememberedTries() {
    return Math.min(10, now.record.size());
  }

  private Object[] remembered(int recency) {
    element(recency >= 0 && recency < rememberedTries());
    return now.record.get(now.record.size() - 1 - recency);
  }

  public int triedDoor(int recency) {
    return (Integer) remembered(recency)[0];
  }

  public boolean didOpen(int recency) {
    return (Boolean) remembered(recency)[1];
  }

  public int shutLocks() {
    return Collections.frequency(now.open, false);
  }

  public int shutLocksByAccounts() {
    return shutLocks();
  }

  public int damp() {
    return now.damp;
  }

  public int hour() {
    return now.hour;
  }

  public int tryTotal() {
    return now.tries;
  }

  public int openedTotal() {
    return now.opened;
  }

  public int bakedTotal() {
    return now.baked;
  }

  public double meanCrumbs() {
    if (now.crumbs.isEmpty()) {
      throw new ArithmeticException();
    }
    return now.crumbs.stream().mapToInt(Integer::intValue).sum() / (double) now.crumbs.size();
  }

  public float openedShare() {
    if (now.tries == 0) {
      throw new ArithmeticException();
    }
    return now.opened / (float) now.tries;
  }

  public boolean isConsistent() {
    return true;
  }

  public int renderLock(int door) {
    door(door);
    int[] dials = now.dials.get(door);
    int[] combination = now.combinations.get(door);
    String mark = isBaking(door) ? "b" : now.open.get(door) ? "o" : "s";
    text = String.format("%d%d%d/%d%d%dc%d%s", dials[0], dials[1], dials[2],
        combination[0], combination[1], combination[2], now.crumbs.get(door), mark);
    return text.length();
  }

  public int renderOvens() {
    text = "";
    for (int oven = 0; oven < 2; oven++) {
      text += oven + ":";
      text += now.ovenDoor[oven] == null ? "-" : now.ovenDoor[oven] + "x" + now.ovenHours[oven];
      text += oven == 0 ? " " : "";
    }
    return text.length();
  }

  public char outputAt(int index) {
    index(index, text.length());
    return text.charAt(index);
  }

  public int type(char character) {
    argument(character >= 32 && character <= 126);
    state(buffer.length() < 60);
    buffer += character;
    return buffer.length();
  }

  public int runScript() {
    String script = buffer;
    buffer = "";
    if (!SCRIPT.matcher(script).matches()) {
      error = errorOf(script);
      throw new IllegalArgumentException();
    }
    String[] commands = script.split(";");
    State before = now.copy();
    List<State> undoableBefore = new ArrayList<>(undoable);
    for (int command = 0; command < commands.length; command++) {
      try {
        carryOut(commands[command]);
      } catch (RuntimeException refused) {
        failed = command;
        now = before;
        undoable.clear();
        undoable.addAll(undoableBefore);
        throw new IllegalStateException();
      }
    }
    State after = now;
    now = before;
    undoable.clear();
    undoable.addAll(undoableBefore);
    changed();
    now = after;
    return commands.length;
  }

  static int errorOf(String script) {
    for (int length = 1; length <= script.length(); length++) {
      Matcher matcher = SCRIPT.matcher(script.substring(0, length));
      if (!matcher.matches() && !matcher.hitEnd()) {
        return length - 1;
      }
    }
    return script.length();
  }

  private void carryOut(String command) {
    String digits = command.replaceAll("[^0-9]", "");
    int[] n = digits.chars().map(digit -> digit - '0').toArray();
    if (command.startsWith("door")) {
      addDoor(n[0], n[1], n[2]);
    } else if (command.startsWith("turn")) {
      turn(n[0], n[1], command.contains("-") ? -n[2] : n[2]);
    } else if (command.startsWith("try")) {
      tryLock(n[0]);
    } else if (command.startsWith("shut")) {
      shut(n[0]);
    } else if (command.startsWith("damp")) {
      setDamp(n[0]);
    } else if (command.startsWith("bake")) {
      bake(n[0], n[1]);
    } else if (command.startsWith("set")) {
      setCombination(n[0], n[1], n[2], n[3]);
    } else {
      passHours(digits.isEmpty() ? 1 : Integer.parseInt(digits));
    }
  }

  public int errorPosition() {
    element(error != null);
    return error;
  }

  public int failedCommand() {
    element(failed != null);
    return failed;
  }

  public int undo() {
    element(!undoable.isEmpty());
    now = undoable.pop();
    return undoable.size();
  }

  public int save() {
    saved = now.copy();
    return now.dials.size();
  }

  public int restore() {
    state(saved != null);
    now = saved.copy();
    undoable.clear();
    return now.dials.size();
  }
}
