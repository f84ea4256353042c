import java.util.NoSuchElementException;
import java.util.function.Consumer;
import java.util.function.IntFunction;
import java.util.function.ObjIntConsumer;
import java.util.function.Supplier;

/** What the tests of boundaries share: ranges of arguments, and houses at the boundaries. */
final class Edges {

  static final Class<IndexOutOfBoundsException> INDEX = IndexOutOfBoundsException.class;
  static final Class<IllegalArgumentException> ARGUMENT = IllegalArgumentException.class;
  static final Class<IllegalStateException> STATE = IllegalStateException.class;
  static final Class<UnsupportedOperationException> UNSUPPORTED =
      UnsupportedOperationException.class;
  static final Class<NoSuchElementException> ELEMENT = NoSuchElementException.class;
  static final Class<ArithmeticException> ARITHMETIC = ArithmeticException.class;

  private Edges() {
  }

  // ---- ranges of arguments

  /** Every number from the least to the largest is taken, and the first on either side refused. */
  static void range(
      String what,
      Class<? extends RuntimeException> due,
      int least,
      int largest,
      Supplier<BiscuitLocks> setUp,
      ObjIntConsumer<BiscuitLocks> call) {
    for (int number = least; number <= largest; number++) {
      int good = number;
      Check.taken(what + " " + good, setUp, x -> call.accept(x, good));
    }
    for (int bad : new int[] {least - 1, largest + 1, Integer.MIN_VALUE, Integer.MAX_VALUE}) {
      Check.refused(what + " " + bad, due, setUp, x -> call.accept(x, bad));
    }
  }

  /** In a house of n doors, for every n, the doors 0 to n - 1 are taken. */
  static void doors(IntFunction<BiscuitLocks> house, ObjIntConsumer<BiscuitLocks> call) {
    for (int count = 0; count <= 6; count++) {
      int doors = count;
      range("of " + doors + " doors, the door", INDEX, 0, doors - 1,
          lived(() -> house.apply(doors)), call);
    }
  }

  static void dials(Supplier<BiscuitLocks> setUp, ObjIntConsumer<BiscuitLocks> call) {
    range("the dial", INDEX, 0, 2, lived(setUp), call);
  }

  static void ovens(Supplier<BiscuitLocks> setUp, ObjIntConsumer<BiscuitLocks> call) {
    range("the oven", INDEX, 0, 1, lived(setUp), call);
  }

  static void positions(Supplier<BiscuitLocks> setUp, ObjIntConsumer<BiscuitLocks> call) {
    range("the position", ARGUMENT, 0, 9, lived(setUp), call);
  }

  /** Refused in a house that holds something of everything, so that a change of it is seen. */
  static void refused(
      String what,
      Class<? extends RuntimeException> due,
      Supplier<BiscuitLocks> setUp,
      Consumer<BiscuitLocks> call) {
    Check.refused(what, due, lived(setUp), call);
  }

  /**
   * The house with an output text, an error position, a failed command, a text in the buffer, a
   * change, and a snapshot with another damp.
   */
  static Supplier<BiscuitLocks> lived(Supplier<BiscuitLocks> setUp) {
    return () -> {
      BiscuitLocks x = setUp.get();
      Check.thrownBy(() -> Check.run(x, "hour;x"));
      Check.thrownBy(() -> Check.run(x, "hour;hour;try 9"));
      x.save();
      x.setDamp(7);
      x.renderOvens();
      Check.typeIn(x, "hour 3");
      return x;
    };
  }

  // ---- houses

  /** Every lock is shut, and no dial of it fits. */
  static BiscuitLocks shutHouse(int doors) {
    BiscuitLocks x = new BiscuitLocks();
    for (int door = 0; door < doors; door++) {
      x.addDoor(5, 5, 5);
    }
    return x;
  }

  /** Every lock is open, at 000 with the combination 000. */
  static BiscuitLocks openHouse(int doors) {
    BiscuitLocks x = new BiscuitLocks();
    for (int door = 0; door < doors; door++) {
      x.addDoor(0, 0, 0);
      x.tryLock(door);
    }
    return x;
  }

  /** The door with the index i has the combination i, 9 - i, 0. */
  static BiscuitLocks numberedHouse(int doors) {
    BiscuitLocks x = new BiscuitLocks();
    for (int door = 0; door < doors; door++) {
      x.addDoor(door, 9 - door, 0);
    }
    return x;
  }

  /** The lock 0 has these crumbs, at 000 with the combination 500; it is shut, or broken. */
  static BiscuitLocks crumbled(int crumbs) {
    BiscuitLocks x = Check.doors("500");
    Check.tryTimes(x, 0, crumbs);
    return x;
  }

  /** The lock 0 has these crumbs and is open, or broken, at 000 with the combination 000. */
  static BiscuitLocks openWith(int crumbs) {
    BiscuitLocks x = crumbled(crumbs);
    if (crumbs < 20) {
      x.turn(0, 0, 5);
      x.tryLock(0);
      x.turn(0, 0, 5);
    }
    x.setCombination(0, 0, 0, 0);
    return x;
  }

  /** The lock 0 has these crumbs, at most 19, and is shut at 000 with this combination. */
  static BiscuitLocks shutWith(int crumbs, String combination) {
    BiscuitLocks x = openWith(crumbs);
    x.setCombination(0, combination.charAt(0) - '0', combination.charAt(1) - '0',
        combination.charAt(2) - '0');
    x.shut(0);
    return x;
  }

  /** The lock 0 is in the oven 0 and the lock 1 in the oven 1, for an hour; the lock 2 is shut. */
  static BiscuitLocks fullOvens() {
    BiscuitLocks x = Check.doors("555", "395", "001");
    x.bake(0, 0);
    x.bake(1, 1);
    return x;
  }

  /** A house without doors after so many changes, each of which is an hour. */
  static BiscuitLocks afterHours(int changes) {
    BiscuitLocks x = new BiscuitLocks();
    for (int change = 0; change < changes; change++) {
      x.passHours(1);
    }
    return x;
  }
}
