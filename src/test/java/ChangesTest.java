/** Promises 1 to 9: a new object and the methods that change it. */
public final class ChangesTest {

  private static final int[] NO_POSITIONS = {-1, 10, Integer.MIN_VALUE, Integer.MAX_VALUE};
  private static final int[] NO_DOORS_OF_THREE = {-1, 3, 6, Integer.MIN_VALUE, Integer.MAX_VALUE};

  public static void main(String[] args) {
    promise1NewObject();
    promise2AddDoor();
    promise2Refusals();
    promise3Turn();
    promise3Refusals();
    promise4TryLock();
    promise4BreakingAndPlay();
    promise4Refusals();
    promise5Shut();
    promise5Refusals();
    promise6SetCombination();
    promise6Refusals();
    promise7SetDamp();
    promise8Bake();
    promise8Refusals();
    promise9Drift();
    promise9Baking();
    promise9Refusals();
    Check.finish();
  }

  private static void promise1NewObject() {
    BiscuitLocks x = new BiscuitLocks();
    Check.same("doorCount", x.doorCount(), 0);
    Check.same("hour", x.hour(), 0);
    Check.same("damp", x.damp(), 0);
    Check.same("the state", Check.stateOf(x), "0 0 0 0 0 0 0 0");
    Check.same("isConsistent", x.isConsistent(), true);
    Check.same("renderOvens", Check.ovenText(x), "0:- 1:-");
    Check.thrown("isOpen", IndexOutOfBoundsException.class, () -> x.isOpen(0));
    BiscuitLocks other = Check.sixDoors();
    Check.same("doorCount beside another object", x.doorCount(), 0);
    Check.same("doorCount of the other object", other.doorCount(), 6);
  }

  private static void promise2AddDoor() {
    BiscuitLocks x = new BiscuitLocks();
    for (int door = 0; door < 6; door++) {
      Check.same("addDoor", x.addDoor(door, 9, 0), door);
      Check.same("the new lock", Check.lockText(x, door), "000/" + door + "90c0s");
      Check.same("doorCount", x.doorCount(), door + 1);
    }
  }

  private static void promise2Refusals() {
    for (int bad : NO_POSITIONS) {
      Check.refused("addDoor(bad, 0, 0)", IllegalArgumentException.class,
          Check::opened, x -> x.addDoor(bad, 0, 0));
      Check.refused("addDoor(0, bad, 0)", IllegalArgumentException.class,
          Check::opened, x -> x.addDoor(0, bad, 0));
      Check.refused("addDoor(0, 0, bad)", IllegalArgumentException.class,
          Check::opened, x -> x.addDoor(0, 0, bad));
      Check.refused("addDoor(0, 0, bad) with 6 doors", IllegalArgumentException.class,
          Check::sixDoors, x -> x.addDoor(0, 0, bad));
    }
    Check.refused("addDoor with 6 doors", IllegalStateException.class,
        Check::sixDoors, x -> x.addDoor(0, 0, 0));
  }

  private static void promise3Turn() {
    for (int from = 0; from <= 9; from++) {
      BiscuitLocks x = Check.doors("395", "395");
      for (int steps = -9; steps <= 9; steps++) {
        Check.turnTo(x, 1, 7, from, 7);
        int due = Math.floorMod(from + steps, 10);
        Check.same("turn from " + from + " by " + steps, x.turn(1, 1, steps), due);
        Check.same("dial", x.dial(1, 1), due);
      }
      Check.same("the lock beside it", Check.lockText(x, 0), "000/395c0s");
      Check.same("the other dials", x.dial(1, 0) + x.dial(1, 2), 14);
    }
    Check.same("turn an open lock", Check.opened().turn(0, 2, -1), 9);
    Check.same("turn a broken lock", Check.broken().turn(0, 0, 9), 9);
  }

  private static void promise3Refusals() {
    for (int bad : NO_DOORS_OF_THREE) {
      Check.refused("turn, no such door", IndexOutOfBoundsException.class,
          Check::baking, x -> x.turn(bad, 0, 1));
      Check.refused("turn, no such dial", IndexOutOfBoundsException.class,
          Check::baking, x -> x.turn(1, bad, 1));
      Check.refused("turn, no such dial, bad steps, in an oven", IndexOutOfBoundsException.class,
          Check::baking, x -> x.turn(0, bad, 10));
    }
    for (int bad : new int[] {-10, 10, Integer.MIN_VALUE, Integer.MAX_VALUE}) {
      Check.refused("turn, bad steps", IllegalArgumentException.class,
          Check::baking, x -> x.turn(1, 0, bad));
      Check.refused("turn, bad steps, in an oven", IllegalArgumentException.class,
          Check::baking, x -> x.turn(0, 0, bad));
    }
    Check.refused("turn, in an oven", IllegalStateException.class,
        Check::baking, x -> x.turn(0, 0, 1));
    Check.refused("turn by 0, in an oven", IllegalStateException.class,
        Check::baking, x -> x.turn(0, 0, 0));
  }

  private static void promise4TryLock() {
    BiscuitLocks x = Check.doors("395", "000");
    Check.same("try with no dial that fits", x.tryLock(0), false);
    Check.same("the lock", Check.lockText(x, 0), "000/395c3s");
    x.turn(0, 0, 3);
    Check.same("try with one dial that fits", x.tryLock(0), false);
    Check.same("the lock", Check.lockText(x, 0), "300/395c5s");
    Check.same("try that opens", x.tryLock(1), true);
    Check.same("the lock", Check.lockText(x, 1), "000/000c0o");
    Check.same("with the play 1, 9 and 0 fit", x.tryLock(0), false);
    Check.same("the lock", Check.lockText(x, 0), "300/395c6s");
    x.turn(0, 2, 6);
    Check.same("try that opens by play", x.tryLock(0), true);
    Check.same("the lock", Check.lockText(x, 0), "306/395c6o");
    Check.same("tryTotal", x.tryTotal(), 5);
    Check.same("openedTotal", x.openedTotal(), 2);
  }

  private static void promise4BreakingAndPlay() {
    BiscuitLocks x = Check.doors("555");
    int[] crumbsDue = {3, 6, 9, 12, 15, 18, 20};
    for (int due : crumbsDue) {
      Check.same("isOpen before the try", x.isOpen(0), false);
      Check.same("tryLock", x.tryLock(0), false);
      Check.same("crumbs", x.crumbs(0), due);
    }
    Check.same("the broken lock", Check.lockText(x, 0), "000/555c20o");
    Check.same("openedTotal", x.openedTotal(), 0);
    Check.same("didOpen", x.didOpen(0), false);
    Check.same("shutLocks", x.shutLocks(), 0);
    BiscuitLocks exact = Check.doors("500");
    Check.tryTimes(exact, 0, 19);
    Check.same("19 crumbs", Check.lockText(exact, 0), "000/500c19s");
    Check.same("tryLock", exact.tryLock(0), false);
    Check.same("20 crumbs", Check.lockText(exact, 0), "000/500c20o");
    for (int distance = 1; distance <= 3; distance++) {
      BiscuitLocks played = Check.doors(distance + "00");
      Check.tryTimes(played, 0, 5 * distance);
      Check.same("isOpen with too small a play", played.isOpen(0), false);
      Check.same("tryLock with the play " + distance, played.tryLock(0), true);
    }
  }

  private static void promise4Refusals() {
    for (int bad : NO_DOORS_OF_THREE) {
      Check.refused("tryLock, no such door", IndexOutOfBoundsException.class,
          Check::baking, x -> x.tryLock(bad));
    }
    Check.refused("tryLock, open", IllegalStateException.class,
        Check::opened, x -> x.tryLock(0));
    Check.refused("tryLock, broken", IllegalStateException.class,
        Check::broken, x -> x.tryLock(0));
    Check.refused("tryLock, in an oven", IllegalStateException.class,
        Check::baking, x -> x.tryLock(0));
  }

  private static void promise5Shut() {
    BiscuitLocks x = Check.doors("000", "000", "395");
    x.tryLock(0);
    x.tryLock(1);
    x.turn(1, 2, 4);
    Check.same("shut", x.shut(1), 2);
    Check.same("the lock keeps its dials", Check.lockText(x, 1), "004/000c0s");
    Check.same("shut", x.shut(0), 3);
    Check.same("isOpen", x.isOpen(0), false);
  }

  private static void promise5Refusals() {
    for (int bad : NO_DOORS_OF_THREE) {
      Check.refused("shut, no such door", IndexOutOfBoundsException.class,
          Check::baking, x -> x.shut(bad));
    }
    Check.refused("shut, shut already", IllegalStateException.class,
        Check::opened, x -> x.shut(1));
    Check.refused("shut, in an oven", IllegalStateException.class,
        Check::baking, x -> x.shut(0));
    Check.refused("shut, broken and in an oven", IllegalStateException.class,
        Check::brokenAndBaking, x -> x.shut(0));
    Check.refused("shut, broken", UnsupportedOperationException.class,
        Check::broken, x -> x.shut(0));
  }

  private static void promise6SetCombination() {
    BiscuitLocks x = Check.opened();
    Check.same("setCombination", x.setCombination(0, 0, 0, 0), 0);
    Check.same("setCombination", x.setCombination(0, 9, 0, 0), 1);
    Check.same("setCombination", x.setCombination(0, 9, 4, 7), 2);
    Check.same("the lock", Check.lockText(x, 0), "000/947c0o");
    Check.same("setCombination", x.setCombination(0, 0, 9, 9), 3);
    Check.same("the lock", Check.lockText(x, 0), "000/099c0o");
    Check.same("the lock beside it", Check.lockText(x, 1), "000/395c0s");
    BiscuitLocks broken = Check.broken();
    Check.same("setCombination, broken", broken.setCombination(0, 5, 5, 1), 1);
    Check.same("the broken lock", Check.lockText(broken, 0), "000/551c20o");
  }

  private static void promise6Refusals() {
    for (int bad : NO_DOORS_OF_THREE) {
      Check.refused("setCombination, no such door", IndexOutOfBoundsException.class,
          Check::baking, x -> x.setCombination(bad, 1, 1, 10));
    }
    for (int bad : NO_POSITIONS) {
      Check.refused("setCombination(0, bad, 0, 0)", IllegalArgumentException.class,
          Check::opened, x -> x.setCombination(0, bad, 0, 0));
      Check.refused("setCombination(0, 0, bad, 0)", IllegalArgumentException.class,
          Check::opened, x -> x.setCombination(0, 0, bad, 0));
      Check.refused("setCombination(0, 0, 0, bad)", IllegalArgumentException.class,
          Check::opened, x -> x.setCombination(0, 0, 0, bad));
      Check.refused("setCombination, bad position, shut", IllegalArgumentException.class,
          Check::opened, x -> x.setCombination(1, 0, 0, bad));
    }
    Check.refused("setCombination, shut", IllegalStateException.class,
        Check::opened, x -> x.setCombination(1, 1, 1, 1));
    Check.refused("setCombination, in an oven", IllegalStateException.class,
        Check::baking, x -> x.setCombination(0, 1, 1, 1));
  }

  private static void promise7SetDamp() {
    BiscuitLocks x = new BiscuitLocks();
    Check.same("setDamp", x.setDamp(9), 0);
    Check.same("setDamp", x.setDamp(4), 9);
    Check.same("setDamp", x.setDamp(0), 4);
    Check.same("damp", x.damp(), 0);
    for (int bad : NO_POSITIONS) {
      Check.refused("setDamp, bad", IllegalArgumentException.class,
          Check::opened, y -> y.setDamp(bad));
    }
  }

  private static void promise8Bake() {
    for (int crumbs = 0; crumbs <= 20; crumbs++) {
      BiscuitLocks x = Check.doors("500");
      Check.tryTimes(x, 0, crumbs);
      Check.same("bake with " + crumbs + " crumbs", x.bake(0, 0), 1 + crumbs / 4);
      Check.same("the crumbs stay", Check.lockText(x, 0), "000/500c" + crumbs + "b");
      Check.same("isOpen", x.isOpen(0), true);
      Check.same("shutLocks", x.shutLocks(), 0);
    }
    BiscuitLocks x = Check.opened();
    Check.same("bake an open lock", x.bake(0, 1), 1);
    Check.same("renderOvens", Check.ovenText(x), "0:- 1:0x1");
    Check.same("bake a shut lock", x.bake(1, 0), 1);
    Check.same("renderOvens", Check.ovenText(x), "0:1x1 1:0x1");
    x.passHours(1);
    Check.same("bake again", x.bake(0, 0), 1);
  }

  private static void promise8Refusals() {
    for (int bad : NO_DOORS_OF_THREE) {
      Check.refused("bake, no such door", IndexOutOfBoundsException.class,
          Check::baking, x -> x.bake(bad, 0));
    }
    for (int bad : new int[] {-1, 2, Integer.MIN_VALUE, Integer.MAX_VALUE}) {
      Check.refused("bake, no such oven", IndexOutOfBoundsException.class,
          Check::baking, x -> x.bake(1, bad));
      Check.refused("bake, no such oven, in an oven", IndexOutOfBoundsException.class,
          Check::baking, x -> x.bake(0, bad));
    }
    Check.refused("bake, in the same oven", IllegalStateException.class,
        Check::baking, x -> x.bake(0, 0));
    Check.refused("bake, in the other oven", IllegalStateException.class,
        Check::baking, x -> x.bake(0, 1));
    Check.refused("bake, the oven bakes another lock", UnsupportedOperationException.class,
        Check::baking, x -> x.bake(1, 0));
  }

  private static void promise9Drift() {
    BiscuitLocks x = Check.doors("000", "395", "001");
    x.tryLock(0);
    x.bake(2, 1);
    x.passHours(9);
    Check.same("before the hour 10", Check.lockText(x, 1), "000/395c0s");
    x.passHours(1);
    Check.same("in the hour 10, the dial 1 drifts", Check.lockText(x, 1), "010/395c0s");
    Check.same("the baked lock drifts too", Check.lockText(x, 2), "010/001c0s");
    x.passHours(20);
    Check.same("in the hours 20 and 30", Check.lockText(x, 1), "111/395c0s");
    Check.same("an open lock does not drift", Check.lockText(x, 0), "000/000c0o");
    x.setDamp(9);
    x.passHours(4);
    Check.same("in each of the hours 31 to 34", Check.lockText(x, 1), "232/395c0s");
    Check.same("hour", x.hour(), 34);
    BiscuitLocks six = Check.sixDoors();
    six.passHours(10);
    for (int door = 0; door < 6; door++) {
      Check.same("each of 6 doors drifts", six.dial(door, 1), 1);
    }
    for (int damp = 0; damp <= 9; damp++) {
      BiscuitLocks y = Check.doors("395");
      y.setDamp(damp);
      int[] due = new int[3];
      for (int hour = 1; hour <= 60; hour++) {
        y.passHours(1);
        due[hour % 3] += hour % (10 - damp) == 0 ? 1 : 0;
        String text = due[0] % 10 + "" + due[1] % 10 + due[2] % 10;
        Check.same("damp " + damp + ", hour " + hour,
            y.dial(0, 0) + "" + y.dial(0, 1) + y.dial(0, 2), text);
      }
    }
  }

  private static void promise9Baking() {
    BiscuitLocks x = Check.doors("555", "395", "999");
    x.setDamp(9);
    Check.tryTimes(x, 0, 3);
    x.turn(0, 0, 4);
    x.bake(0, 0);
    x.bake(1, 1);
    Check.same("passHours", x.passHours(1), 1);
    Check.same("it was in the oven while the others drifted", Check.lockText(x, 1), "000/395c0s");
    Check.same("the other bakes on", Check.lockText(x, 0), "400/555c9b");
    Check.same("passHours", x.passHours(1), 0);
    Check.same("it drifts now", Check.lockText(x, 1), "001/395c0s");
    Check.same("passHours", x.passHours(1), 1);
    Check.same("it is baked", Check.lockText(x, 0), "000/555c0s");
    Check.same("renderOvens", Check.ovenText(x), "0:- 1:-");
    x.bake(0, 0);
    x.bake(2, 1);
    Check.same("passHours, both ovens", x.passHours(60), 2);
    Check.same("bakedTotal", x.bakedTotal(), 4);
    Check.same("hour", x.hour(), 63);
    BiscuitLocks y = Check.brokenAndBaking();
    Check.same("passHours", y.passHours(5), 0);
    Check.same("it is broken until it is baked", y.isBroken(0), true);
    Check.same("passHours", y.passHours(1), 1);
    Check.same("it is shut and whole", Check.lockText(y, 0), "000/555c0s");
    y.setDamp(9);
    y.bake(1, 0);
    y.passHours(3);
    Check.same("one hour of baking, two of drift", Check.lockText(y, 1), "101/395c0s");
  }

  private static void promise9Refusals() {
    for (int bad : new int[] {0, -1, 61, Integer.MIN_VALUE, Integer.MAX_VALUE}) {
      Check.refused("passHours, bad", IllegalArgumentException.class,
          Check::baking, x -> x.passHours(bad));
    }
  }
}
