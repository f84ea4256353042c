import java.util.NoSuchElementException;

/** Promises 27 to 30: the ranking and the record of tries. */
public final class RecordTest {

  public static void main(String[] args) {
    promise27DoorByCrumbs();
    promise27Refusals();
    promise28To30Record();
    promise28To30Latest10();
    promise29And30Refusals();
    Check.finish();
  }

  private static void promise27DoorByCrumbs() {
    // Steps: 0, 9, 9, 15, 6, 13.
    BiscuitLocks x = Check.doors("000", "395", "495", "555", "312", "454");
    ranks(x, "steps, then indices", 0, 4, 1, 2, 5, 3);
    Check.tryTimes(x, 2, 1);
    ranks(x, "the lock 2 has 3 crumbs", 2, 0, 4, 1, 5, 3);
    Check.tryTimes(x, 5, 1);
    ranks(x, "the lock 5 too, with more steps", 2, 5, 0, 4, 1, 3);
    Check.tryTimes(x, 5, 1);
    ranks(x, "the lock 5 has 6", 5, 2, 0, 4, 1, 3);
    x.bake(5, 0);
    ranks(x, "in an oven", 5, 2, 0, 4, 1, 3);
    x.passHours(2);
    ranks(x, "baked", 2, 0, 4, 1, 5, 3);
    ranks(Check.doors("500", "050", "005"), "all alike", 0, 1, 2);
  }

  private static void ranks(BiscuitLocks x, String what, int... due) {
    for (int rank = 0; rank < due.length; rank++) {
      Check.same("doorByCrumbs(" + rank + "), " + what, x.doorByCrumbs(rank), due[rank]);
    }
  }

  private static void promise27Refusals() {
    for (int bad : new int[] {-1, 3, 6, Integer.MIN_VALUE, Integer.MAX_VALUE}) {
      Check.refused("doorByCrumbs, no such rank", NoSuchElementException.class,
          Check::baking, x -> x.doorByCrumbs(bad));
    }
    Check.refused("doorByCrumbs, no doors", NoSuchElementException.class,
        BiscuitLocks::new, x -> x.doorByCrumbs(0));
  }

  private static void promise28To30Record() {
    BiscuitLocks x = Check.doors("000", "395");
    Check.same("rememberedTries", x.rememberedTries(), 0);
    x.tryLock(1);
    x.tryLock(0);
    x.tryLock(1);
    Check.same("rememberedTries", x.rememberedTries(), 3);
    Check.same("triedDoor(0)", x.triedDoor(0), 1);
    Check.same("triedDoor(1)", x.triedDoor(1), 0);
    Check.same("triedDoor(2)", x.triedDoor(2), 1);
    Check.same("didOpen(0)", x.didOpen(0), false);
    Check.same("didOpen(1)", x.didOpen(1), true);
    Check.same("didOpen(2)", x.didOpen(2), false);
    BiscuitLocks broken = Check.broken();
    Check.same("didOpen, broken by it", broken.didOpen(0), false);
    Check.thrown("tryLock", IllegalStateException.class, () -> broken.tryLock(0));
    Check.same("a refused try is not remembered", broken.rememberedTries(), 7);
  }

  private static void promise28To30Latest10() {
    BiscuitLocks x = Check.doors("000", "500", "050");
    x.tryLock(0);
    for (int tries = 2; tries <= 14; tries++) {
      x.tryLock(1 + tries % 2);
      Check.same("rememberedTries", x.rememberedTries(), Math.min(10, tries));
      Check.same("tryTotal", x.tryTotal(), tries);
      for (int recency = 0; recency < x.rememberedTries(); recency++) {
        int made = tries - recency;
        Check.same("triedDoor", x.triedDoor(recency), made == 1 ? 0 : 1 + made % 2);
        Check.same("didOpen", x.didOpen(recency), made == 1);
      }
    }
  }

  private static void promise29And30Refusals() {
    for (int bad : new int[] {-1, 3, Integer.MIN_VALUE, Integer.MAX_VALUE}) {
      Check.refused("triedDoor, not remembered", NoSuchElementException.class,
          Check::baking, x -> x.triedDoor(bad));
      Check.refused("didOpen, not remembered", NoSuchElementException.class,
          Check::baking, x -> x.didOpen(bad));
    }
    BiscuitLocks x = Check.doors("500");
    Check.tryTimes(x, 0, 12);
    Check.thrown("triedDoor(10)", NoSuchElementException.class, () -> x.triedDoor(10));
    Check.thrown("didOpen(10)", NoSuchElementException.class, () -> x.didOpen(10));
  }
}
