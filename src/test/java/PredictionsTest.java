import java.util.NoSuchElementException;

/** Promises 21 to 23: predictions, which change nothing. */
public final class PredictionsTest {

  private static final int[] NO_INDICES = {-1, 3, 6, Integer.MIN_VALUE, Integer.MAX_VALUE};

  public static void main(String[] args) {
    promise21TriesUntilBroken();
    promise21Refusals();
    promise22DialAfter();
    promise22ComesTrue();
    promise22Refusals();
    promise23HoursUntilFitting();
    promise23Bounds();
    promise23Refusals();
    Check.finish();
  }

  private static void promise21TriesUntilBroken() {
    BiscuitLocks x = Check.doors("555", "500", "550", "385");
    Check.same("triesUntilBroken, three far dials", x.triesUntilBroken(0), 7);
    Check.same("triesUntilBroken, one far dial", x.triesUntilBroken(1), 20);
    Check.same("triesUntilBroken, two far dials", x.triesUntilBroken(2), 10);
    // Crumbs 3, 6, 9, 12; the dial 1 fits with the play 2: 14, 16; the dial 0 with 3: 17 to 20.
    Check.same("triesUntilBroken, the play grows", x.triesUntilBroken(3), 10);
    Check.same("nothing has changed", x.tryTotal() + x.crumbs(0) + x.crumbs(3), 0);
    for (int due = 7; due > 0; due--) {
      Check.same("triesUntilBroken", x.triesUntilBroken(0), due);
      x.tryLock(0);
    }
    Check.same("triesUntilBroken, broken", x.triesUntilBroken(0), 0);
    x.bake(0, 0);
    Check.same("triesUntilBroken, broken and in an oven", x.triesUntilBroken(0), 0);
    Check.same("triesUntilBroken, in an oven", Check.baking().triesUntilBroken(0), 4);
    BiscuitLocks open = Check.opened();
    open.setCombination(0, 5, 0, 0);
    Check.same("triesUntilBroken, open", open.triesUntilBroken(0), 20);
    BiscuitLocks broken = Check.broken();
    broken.setCombination(0, 0, 0, 0);
    Check.same("triesUntilBroken, broken and fitting", broken.triesUntilBroken(0), 0);
  }

  private static void promise21Refusals() {
    for (int bad : NO_INDICES) {
      Check.refused("triesUntilBroken, no such door", IndexOutOfBoundsException.class,
          Check::baking, x -> x.triesUntilBroken(bad));
    }
    Check.refused("triesUntilBroken, it would open now", NoSuchElementException.class,
        Check::opened, x -> x.triesUntilBroken(0));
    Check.refused("triesUntilBroken, it would open after 5 tries", NoSuchElementException.class,
        () -> Check.doors("100"), x -> x.triesUntilBroken(0));
    Check.refused("triesUntilBroken, it would open with the play 3", NoSuchElementException.class,
        () -> Check.doors("333"), x -> x.triesUntilBroken(0));
  }

  private static void promise22DialAfter() {
    BiscuitLocks x = Check.opened();
    Check.same("dialAfter, 0 hours", x.dialAfter(1, 1, 0), 0);
    Check.same("dialAfter, 9 hours", x.dialAfter(1, 1, 9), 0);
    Check.same("dialAfter, 10 hours", x.dialAfter(1, 1, 10), 1);
    Check.same("dialAfter, 60 hours", x.dialAfter(1, 1, 60), 2);
    Check.same("dialAfter, open", x.dialAfter(0, 1, 60), 0);
    x.setDamp(9);
    x.turn(1, 0, 9);
    Check.same("dialAfter, wet", x.dialAfter(1, 0, 3), 0);
    Check.same("dialAfter, wet, 60 hours", x.dialAfter(1, 0, 60), 9);
    Check.same("nothing has passed", x.hour(), 0);
    BiscuitLocks baking = Check.baking();
    baking.setDamp(9);
    Check.same("nothing drifts in an oven", baking.dialAfter(0, 0, 3), 0);
    Check.same("after baking it drifts", baking.dialAfter(0, 1, 4), 1);
    Check.same("after baking it drifts", baking.dialAfter(0, 0, 6), 1);
    BiscuitLocks turned = Check.doors("555");
    turned.turn(0, 0, 7);
    turned.bake(0, 0);
    Check.same("dialAfter, in an oven", turned.dialAfter(0, 0, 0), 7);
    Check.same("dialAfter, baked", turned.dialAfter(0, 0, 1), 0);
  }

  private static void promise22ComesTrue() {
    for (int damp = 0; damp <= 9; damp++) {
      for (int hours = 1; hours <= 60; hours += 7) {
        BiscuitLocks x = Check.baking();
        x.setDamp(damp);
        x.passHours(damp + 1);
        int[] predicted = new int[9];
        for (int place = 0; place < 9; place++) {
          predicted[place] = x.dialAfter(place / 3, place % 3, hours);
        }
        x.passHours(hours);
        for (int place = 0; place < 9; place++) {
          Check.same("the dial that was predicted", x.dial(place / 3, place % 3), predicted[place]);
        }
      }
    }
  }

  private static void promise22Refusals() {
    for (int bad : NO_INDICES) {
      Check.refused("dialAfter, no such door", IndexOutOfBoundsException.class,
          Check::baking, x -> x.dialAfter(bad, 0, 61));
      Check.refused("dialAfter, no such dial", IndexOutOfBoundsException.class,
          Check::baking, x -> x.dialAfter(0, bad, -1));
    }
    for (int bad : new int[] {-1, 61, Integer.MIN_VALUE, Integer.MAX_VALUE}) {
      Check.refused("dialAfter, bad hours", IllegalArgumentException.class,
          Check::baking, x -> x.dialAfter(0, 0, bad));
    }
  }

  private static void promise23HoursUntilFitting() {
    BiscuitLocks x = Check.doors("000", "010", "011", "111");
    Check.same("hoursUntilFitting, now", x.hoursUntilFitting(0), 0);
    Check.same("hoursUntilFitting, hour 10", x.hoursUntilFitting(1), 10);
    Check.same("hoursUntilFitting, hour 20", x.hoursUntilFitting(2), 20);
    Check.same("hoursUntilFitting, hour 30", x.hoursUntilFitting(3), 30);
    x.passHours(5);
    Check.same("hoursUntilFitting, hour 30", x.hoursUntilFitting(3), 25);
    x.tryLock(0);
    Check.same("hoursUntilFitting, open and fitting", x.hoursUntilFitting(0), 0);
    BiscuitLocks played = Check.doors("252");
    Check.tryTimes(played, 0, 4);
    Check.same("12 crumbs", played.crumbs(0), 12);
    played.setDamp(9);
    // With the play 2, only the dial 1 is to drift, by 3 steps: in the hours 1, 4 and 7.
    Check.same("hoursUntilFitting with play", played.hoursUntilFitting(0), 7);
    BiscuitLocks baking = Check.broken();
    baking.setCombination(0, 0, 0, 0);
    baking.turn(0, 0, 5);
    baking.bake(0, 0);
    Check.same("hoursUntilFitting, in an oven", baking.hoursUntilFitting(0), 6);
    BiscuitLocks wet = Check.baking();
    wet.setDamp(9);
    // Baked in the hour 3; then the play is gone, and each dial drifts 5 times: hours 4 to 18.
    Check.same("hoursUntilFitting, the play is baked away", wet.hoursUntilFitting(0), 18);
  }

  private static void promise23Bounds() {
    Check.same("hoursUntilFitting, 60", Check.doors("222").hoursUntilFitting(0), 60);
    Check.refused("hoursUntilFitting, 61", NoSuchElementException.class,
        () -> late(59), x -> x.hoursUntilFitting(0));
    Check.same("hoursUntilFitting, 60 again", late(60).hoursUntilFitting(0), 60);
  }

  /** A lock whose dials fit in the hour 120 for the first time, at this hour. */
  private static BiscuitLocks late(int hour) {
    BiscuitLocks x = Check.doors("444");
    x.passHours(hour);
    return x;
  }

  private static void promise23Refusals() {
    for (int bad : NO_INDICES) {
      Check.refused("hoursUntilFitting, no such door", IndexOutOfBoundsException.class,
          Check::baking, x -> x.hoursUntilFitting(bad));
    }
    Check.refused("hoursUntilFitting, open", NoSuchElementException.class,
        Check::broken, x -> x.hoursUntilFitting(0));
    Check.refused("hoursUntilFitting, never", NoSuchElementException.class,
        () -> Check.doors("999"), x -> x.hoursUntilFitting(0));
  }
}
