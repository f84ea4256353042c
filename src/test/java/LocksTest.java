/** Promises 10 to 20: what is told of doors and locks. */
public final class LocksTest {

  private static final int[] NO_INDICES = {-1, 3, 6, Integer.MIN_VALUE, Integer.MAX_VALUE};

  public static void main(String[] args) {
    promise10DoorCount();
    promise11Dial();
    promise12Combination();
    promise13IsOpen();
    promise14IsBroken();
    promise15Crumbs();
    promise16Play();
    promise17FittingDials();
    promise18And19Steps();
    promise20OpeningSettings();
    noSuchDoor();
    Check.finish();
  }

  private static void promise10DoorCount() {
    BiscuitLocks x = new BiscuitLocks();
    for (int door = 0; door < 6; door++) {
      Check.same("doorCount", x.doorCount(), door);
      x.addDoor(0, 0, 0);
    }
    Check.same("doorCount", x.doorCount(), 6);
    x.bake(0, 0);
    Check.same("doorCount", x.doorCount(), 6);
  }

  private static void promise11Dial() {
    BiscuitLocks x = Check.sixDoors();
    Check.turnTo(x, 5, 1, 2, 3);
    for (int dial = 0; dial < 3; dial++) {
      Check.same("dial", x.dial(5, dial), dial + 1);
      Check.same("dial", x.dial(4, dial), 0);
    }
    for (int bad : NO_INDICES) {
      Check.refused("dial, no such door", IndexOutOfBoundsException.class,
          Check::baking, y -> y.dial(bad, 0));
      Check.refused("dial, no such dial", IndexOutOfBoundsException.class,
          Check::baking, y -> y.dial(0, bad));
    }
  }

  private static void promise12Combination() {
    BiscuitLocks x = Check.sixDoors();
    for (int dial = 0; dial < 3; dial++) {
      Check.same("combination", x.combination(5, dial), dial + 4);
      Check.same("combination", x.combination(3, dial), 9);
    }
    for (int bad : NO_INDICES) {
      Check.refused("combination, no such door", IndexOutOfBoundsException.class,
          Check::baking, y -> y.combination(bad, 0));
      Check.refused("combination, no such dial", IndexOutOfBoundsException.class,
          Check::baking, y -> y.combination(0, bad));
    }
  }

  private static void promise13IsOpen() {
    Check.same("isOpen, opened", Check.opened().isOpen(0), true);
    Check.same("isOpen, shut", Check.opened().isOpen(1), false);
    Check.same("isOpen, broken", Check.broken().isOpen(0), true);
    Check.same("isOpen, in an oven", Check.baking().isOpen(0), true);
    BiscuitLocks x = Check.baking();
    x.passHours(3);
    Check.same("isOpen, baked", x.isOpen(0), false);
  }

  private static void promise14IsBroken() {
    BiscuitLocks x = Check.doors("500");
    for (int crumbs = 0; crumbs < 20; crumbs++) {
      Check.same("isBroken with " + crumbs + " crumbs", x.isBroken(0), false);
      x.tryLock(0);
    }
    Check.same("isBroken with 20 crumbs", x.isBroken(0), true);
    Check.same("isBroken, in an oven", Check.brokenAndBaking().isBroken(0), true);
    Check.same("isBroken, opened", Check.opened().isBroken(0), false);
  }

  private static void promise15Crumbs() {
    BiscuitLocks x = Check.doors("500", "555");
    for (int tries = 1; tries <= 7; tries++) {
      x.tryLock(0);
      x.tryLock(1);
      Check.same("crumbs", x.crumbs(0), tries);
      Check.same("crumbs", x.crumbs(1), Math.min(20, 3 * tries));
    }
    x.bake(1, 0);
    x.passHours(5);
    Check.same("crumbs, in an oven", x.crumbs(1), 20);
    x.passHours(1);
    Check.same("crumbs, baked", x.crumbs(1), 0);
  }

  private static void promise16Play() {
    BiscuitLocks x = Check.doors("500");
    for (int crumbs = 0; crumbs < 20; crumbs++) {
      Check.same("play with " + crumbs + " crumbs", x.play(0), crumbs / 5);
      x.tryLock(0);
    }
    Check.same("play with 20 crumbs", x.play(0), 4);
  }

  private static void promise17FittingDials() {
    BiscuitLocks x = Check.doors("395");
    Check.same("fittingDials", x.fittingDials(0), 0);
    x.turn(0, 0, 3);
    Check.same("fittingDials", x.fittingDials(0), 1);
    x.turn(0, 1, -1);
    Check.same("fittingDials", x.fittingDials(0), 2);
    x.turn(0, 2, 5);
    Check.same("fittingDials", x.fittingDials(0), 3);
    BiscuitLocks played = Check.doors("975");
    Check.tryTimes(played, 0, 2);
    Check.same("fittingDials with the play 1", played.fittingDials(0), 1);
    Check.tryTimes(played, 0, 2);
    Check.same("fittingDials with the play 2", played.fittingDials(0), 1);
    Check.tryTimes(played, 0, 2);
    Check.same("14 crumbs", played.crumbs(0), 14);
    played.tryLock(0);
    Check.same("fittingDials with the play 3", played.fittingDials(0), 2);
  }

  /** For every distance and every play, with the distance counted both ways round. */
  private static void promise18And19Steps() {
    for (int crumbs = 0; crumbs <= 20; crumbs += 5) {
      for (int position = 0; position <= 9; position++) {
        BiscuitLocks x = Check.doors("500", position + "95");
        Check.tryTimes(x, 0, crumbs);
        if (crumbs < 20) {
          x.turn(0, 0, 5);
          Check.same("tryLock", x.tryLock(0), true);
        }
        x.setCombination(0, 0, 0, 0);
        Check.turnTo(x, 0, position, 0, 0);
        int distance = Math.min(position, 10 - position);
        int due = Math.max(0, distance - crumbs / 5);
        Check.same("stepsToOpen", x.stepsToOpen(0), due);
        Check.same("stepsToOpenByTurning", x.stepsToOpenByTurning(0), due);
        Check.same("stepsToOpen of three dials", x.stepsToOpen(1), distance + 6);
        Check.same("stepsToOpenByTurning of three", x.stepsToOpenByTurning(1), distance + 6);
        Check.same("the dial is turned on a copy", x.dial(0, 0), position);
      }
    }
    BiscuitLocks baking = Check.baking();
    Check.same("stepsToOpen, in an oven", baking.stepsToOpen(0), 12);
    Check.same("stepsToOpenByTurning, in an oven", baking.stepsToOpenByTurning(0), 12);
  }

  private static void promise20OpeningSettings() {
    int[] due = {1, 27, 125, 343, 729};
    BiscuitLocks x = Check.doors("500");
    for (int crumbs = 0; crumbs < 20; crumbs++) {
      Check.same("openingSettings", x.openingSettings(0), due[crumbs / 5]);
      x.tryLock(0);
    }
    Check.same("openingSettings, broken", x.openingSettings(0), due[4]);
  }

  private static void noSuchDoor() {
    Class<IndexOutOfBoundsException> due = IndexOutOfBoundsException.class;
    for (int bad : NO_INDICES) {
      Check.refused("isOpen, no such door", due, Check::baking, x -> x.isOpen(bad));
      Check.refused("isBroken, no such door", due, Check::baking, x -> x.isBroken(bad));
      Check.refused("crumbs, no such door", due, Check::baking, x -> x.crumbs(bad));
      Check.refused("play, no such door", due, Check::baking, x -> x.play(bad));
      Check.refused("fittingDials, no such door", due, Check::baking, x -> x.fittingDials(bad));
      Check.refused("stepsToOpen, no such door", due, Check::baking, x -> x.stepsToOpen(bad));
      Check.refused("stepsToOpenByTurning, no such door", due,
          Check::baking, x -> x.stepsToOpenByTurning(bad));
      Check.refused("openingSettings, no such door", due,
          Check::baking, x -> x.openingSettings(bad));
    }
  }
}
