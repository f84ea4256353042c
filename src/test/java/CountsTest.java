/** Promises 31 to 40: counts, totals, quotients and the check of the state. */
public final class CountsTest {

  public static void main(String[] args) {
    promise31And32ShutLocks();
    promise33Damp();
    promise34Hour();
    promise35And36Tries();
    promise37BakedTotal();
    promise38MeanCrumbs();
    promise39OpenedShare();
    promise40IsConsistent();
    Check.finish();
  }

  private static void promise31And32ShutLocks() {
    BiscuitLocks x = new BiscuitLocks();
    shutLocks(x, "no doors", 0);
    x.addDoor(0, 0, 0);
    x.addDoor(5, 5, 5);
    x.addDoor(5, 0, 0);
    shutLocks(x, "three doors", 3);
    x.tryLock(0);
    shutLocks(x, "one opened", 2);
    Check.tryTimes(x, 1, 7);
    shutLocks(x, "one broken", 1);
    x.bake(1, 0);
    shutLocks(x, "put into an oven while it was open", 1);
    x.bake(2, 1);
    shutLocks(x, "put into an oven while it was shut", 0);
    x.passHours(1);
    shutLocks(x, "baked", 1);
    x.passHours(5);
    shutLocks(x, "baked", 2);
    x.shut(0);
    shutLocks(x, "shut", 3);
    x.tryLock(0);
    shutLocks(x, "opened again", 2);
    x.undo();
    shutLocks(x, "undone", 3);
  }

  private static void shutLocks(BiscuitLocks x, String what, int due) {
    Check.same("shutLocks, " + what, x.shutLocks(), due);
    Check.same("shutLocksByAccounts, " + what, x.shutLocksByAccounts(), due);
    Check.same("isConsistent, " + what, x.isConsistent(), true);
  }

  private static void promise33Damp() {
    BiscuitLocks x = new BiscuitLocks();
    Check.same("damp", x.damp(), 0);
    for (int damp = 9; damp >= 0; damp--) {
      x.setDamp(damp);
      Check.same("damp", x.damp(), damp);
    }
    Check.thrown("setDamp", IllegalArgumentException.class, () -> x.setDamp(10));
    Check.same("damp", x.damp(), 0);
  }

  private static void promise34Hour() {
    BiscuitLocks x = new BiscuitLocks();
    x.passHours(1);
    Check.same("hour", x.hour(), 1);
    x.passHours(60);
    Check.same("hour", x.hour(), 61);
    Check.thrown("passHours", IllegalArgumentException.class, () -> x.passHours(61));
    Check.same("hour", x.hour(), 61);
  }

  private static void promise35And36Tries() {
    BiscuitLocks x = Check.doors("000", "555");
    totals(x, 0, 0);
    x.tryLock(1);
    totals(x, 1, 0);
    x.tryLock(0);
    totals(x, 2, 1);
    Check.thrown("tryLock", IllegalStateException.class, () -> x.tryLock(0));
    totals(x, 2, 1);
    x.shut(0);
    x.tryLock(0);
    totals(x, 3, 2);
    Check.tryTimes(x, 1, 6);
    totals(x, 9, 2);
  }

  private static void totals(BiscuitLocks x, int tries, int opened) {
    Check.same("tryTotal", x.tryTotal(), tries);
    Check.same("openedTotal", x.openedTotal(), opened);
  }

  private static void promise37BakedTotal() {
    BiscuitLocks x = Check.baking();
    Check.same("bakedTotal", x.bakedTotal(), 0);
    x.passHours(2);
    Check.same("bakedTotal", x.bakedTotal(), 0);
    x.passHours(1);
    Check.same("bakedTotal", x.bakedTotal(), 1);
    x.bake(1, 0);
    x.bake(2, 1);
    x.passHours(1);
    Check.same("bakedTotal", x.bakedTotal(), 3);
  }

  private static void promise38MeanCrumbs() {
    BiscuitLocks x = Check.doors("555", "500", "000");
    Check.same("meanCrumbs", x.meanCrumbs(), 0.0);
    x.tryLock(1);
    Check.same("meanCrumbs", x.meanCrumbs(), 1.0 / 3.0);
    Check.tryTimes(x, 0, 7);
    Check.same("meanCrumbs", x.meanCrumbs(), 7.0);
    x.bake(0, 0);
    Check.same("meanCrumbs, in an oven", x.meanCrumbs(), 7.0);
    x.addDoor(0, 0, 0);
    Check.same("meanCrumbs", x.meanCrumbs(), 5.25);
    BiscuitLocks six = Check.sixDoors();
    six.tryLock(5);
    Check.same("meanCrumbs, 6 doors", six.meanCrumbs(), 0.5);
    Check.refused("meanCrumbs, no doors", ArithmeticException.class,
        BiscuitLocks::new, BiscuitLocks::meanCrumbs);
  }

  private static void promise39OpenedShare() {
    BiscuitLocks x = Check.doors("000", "500");
    x.tryLock(1);
    Check.same("openedShare", x.openedShare(), 0.0f);
    x.tryLock(0);
    Check.same("openedShare", x.openedShare(), 0.5f);
    x.tryLock(1);
    Check.same("openedShare", x.openedShare(), 1.0f / 3.0f);
    Check.refused("openedShare, no try", ArithmeticException.class,
        Check::sixDoors, BiscuitLocks::openedShare);
  }

  private static void promise40IsConsistent() {
    Check.same("isConsistent", new BiscuitLocks().isConsistent(), true);
    Check.same("isConsistent, 6 doors", Check.sixDoors().isConsistent(), true);
    Check.same("isConsistent", Check.opened().isConsistent(), true);
    Check.same("isConsistent", Check.broken().isConsistent(), true);
    BiscuitLocks x = Check.brokenAndBaking();
    String before = Check.stateOf(x);
    Check.same("isConsistent", x.isConsistent(), true);
    Check.same("isConsistent changes nothing", Check.stateOf(x), before);
  }
}
