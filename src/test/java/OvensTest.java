import java.util.NoSuchElementException;

/** Promises 24 to 26: what is told of the ovens. */
public final class OvensTest {

  public static void main(String[] args) {
    promise24BakedDoor();
    promise25BakingHours();
    promise26IsBaking();
    Check.finish();
  }

  private static void promise24BakedDoor() {
    BiscuitLocks x = Check.sixDoors();
    x.bake(5, 0);
    x.bake(0, 1);
    Check.same("bakedDoor", x.bakedDoor(0), 5);
    Check.same("bakedDoor", x.bakedDoor(1), 0);
    x.passHours(1);
    Check.thrown("bakedDoor, baked", NoSuchElementException.class, () -> x.bakedDoor(0));
    Check.refused("bakedDoor, no lock", NoSuchElementException.class,
        Check::baking, y -> y.bakedDoor(1));
    for (int bad : new int[] {-1, 2, Integer.MIN_VALUE, Integer.MAX_VALUE}) {
      Check.refused("bakedDoor, no such oven", IndexOutOfBoundsException.class,
          Check::baking, y -> y.bakedDoor(bad));
    }
  }

  private static void promise25BakingHours() {
    BiscuitLocks x = Check.brokenAndBaking();
    Check.same("bakingHours, no lock", x.bakingHours(0), 0);
    for (int due = 6; due > 0; due--) {
      Check.same("bakingHours", x.bakingHours(1), due);
      x.passHours(1);
    }
    Check.same("bakingHours, baked", x.bakingHours(1), 0);
    for (int bad : new int[] {-1, 2, Integer.MIN_VALUE, Integer.MAX_VALUE}) {
      Check.refused("bakingHours, no such oven", IndexOutOfBoundsException.class,
          Check::baking, y -> y.bakingHours(bad));
    }
  }

  private static void promise26IsBaking() {
    BiscuitLocks x = Check.sixDoors();
    x.bake(2, 0);
    x.bake(4, 1);
    for (int door = 0; door < 6; door++) {
      Check.same("isBaking(" + door + ")", x.isBaking(door), door == 2 || door == 4);
    }
    x.passHours(1);
    Check.same("isBaking, baked", x.isBaking(2) || x.isBaking(4), false);
    for (int bad : new int[] {-1, 3, Integer.MIN_VALUE, Integer.MAX_VALUE}) {
      Check.refused("isBaking, no such door", IndexOutOfBoundsException.class,
          Check::baking, y -> y.isBaking(bad));
    }
  }
}
