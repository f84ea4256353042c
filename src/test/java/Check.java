import java.util.function.Consumer;
import java.util.function.Supplier;

/** What the tests share: checks that are counted, set-ups, and a view of the whole state. */
final class Check {

  private static int checks = 0;
  private static int wrong = 0;
  private static String about = "";

  private Check() {
  }

  /** What the next checks are about; it is told before each of them that is wrong. */
  static void about(String text) {
    about = text;
  }

  static int count() {
    return checks;
  }

  static void same(String what, Object got, Object due) {
    checks++;
    if (!got.equals(due)) {
      wrong++;
      System.out.println(about + what + " answered " + got + ", due is " + due);
    }
  }

  static void thrown(String what, Class<? extends RuntimeException> due, Runnable call) {
    same(what, thrownBy(call), due.getSimpleName());
  }

  /** The call on a fresh object throws this very exception and changes nothing. */
  static void refused(
      String what,
      Class<? extends RuntimeException> due,
      Supplier<BiscuitLocks> setUp,
      Consumer<BiscuitLocks> call) {
    BiscuitLocks x = setUp.get();
    thrown(what, due, () -> call.accept(x));
    changesNothing(what, setUp, call);
  }

  /** The call on a fresh object throws nothing. */
  static void taken(String what, Supplier<BiscuitLocks> setUp, Consumer<BiscuitLocks> call) {
    BiscuitLocks x = setUp.get();
    same("what is thrown by " + what, thrownBy(() -> call.accept(x)), "nothing");
  }

  /** The call, whether it is answered or refused, leaves all that the object holds. */
  static void changesNothing(
      String what, Supplier<BiscuitLocks> setUp, Consumer<BiscuitLocks> call) {
    Supplier<BiscuitLocks> called = () -> {
      BiscuitLocks x = setUp.get();
      thrownBy(() -> call.accept(x));
      return x;
    };
    same("all that is held after " + what, Whole.of(called), Whole.of(setUp));
  }

  /** The script, run on a fresh object, throws this and changes only the buffer and a position. */
  static void refusedScript(
      String script, Class<? extends RuntimeException> due, Supplier<BiscuitLocks> setUp) {
    String what = "the script \"" + script + "\"";
    BiscuitLocks x = setUp.get();
    thrown(what, due, () -> run(x, script));
    same("the buffer after " + what, x.type('h'), 1);
    Supplier<BiscuitLocks> called = () -> {
      BiscuitLocks y = setUp.get();
      thrownBy(() -> run(y, script));
      return y;
    };
    same("all that is held after " + what, Whole.besideScripts(called), Whole.besideScripts(setUp));
  }

  static String thrownBy(Runnable call) {
    try {
      call.run();
    } catch (RuntimeException exception) {
      return exception.getClass().getSimpleName();
    }
    return "nothing";
  }

  /** To be called last: ends the program with exit code 1 if a check was wrong. */
  static void finish() {
    System.out.println(checks + " checks, " + wrong + " wrong");
    if (wrong > 0 || checks == 0) {
      System.exit(1);
    }
  }

  /** Whatever the object tells of its state, without a call that changes it (some 100 calls). */
  static String stateOf(BiscuitLocks x) {
    StringBuilder state = new StringBuilder();
    for (int door = 0; door < x.doorCount(); door++) {
      for (int dial = 0; dial < 3; dial++) {
        state.append(x.dial(door, dial)).append(x.combination(door, dial)).append(' ');
      }
      state.append(x.crumbs(door)).append(x.isOpen(door)).append(x.isBaking(door)).append(' ');
    }
    for (int oven = 0; oven < 2; oven++) {
      state.append(x.bakingHours(oven)).append(' ');
      if (x.bakingHours(oven) > 0) {
        state.append(x.bakedDoor(oven)).append(' ');
      }
    }
    for (int recency = 0; recency < x.rememberedTries(); recency++) {
      state.append(x.triedDoor(recency)).append(x.didOpen(recency)).append(' ');
    }
    state.append(x.shutLocksByAccounts()).append(' ').append(x.damp()).append(' ');
    state.append(x.hour()).append(' ').append(x.tryTotal()).append(' ');
    state.append(x.openedTotal()).append(' ').append(x.bakedTotal());
    return state.toString();
  }

  static String output(BiscuitLocks x, int length) {
    StringBuilder text = new StringBuilder();
    for (int index = 0; index < length; index++) {
      text.append(x.outputAt(index));
    }
    return text.toString();
  }

  static String lockText(BiscuitLocks x, int door) {
    return output(x, x.renderLock(door));
  }

  static String ovenText(BiscuitLocks x) {
    return output(x, x.renderOvens());
  }

  static void typeIn(BiscuitLocks x, String script) {
    for (char character : script.toCharArray()) {
      x.type(character);
    }
  }

  static int run(BiscuitLocks x, String script) {
    typeIn(x, script);
    return x.runScript();
  }

  static void turnTo(BiscuitLocks x, int door, int first, int second, int third) {
    x.turn(door, 0, first - x.dial(door, 0));
    x.turn(door, 1, second - x.dial(door, 1));
    x.turn(door, 2, third - x.dial(door, 2));
  }

  static void tryTimes(BiscuitLocks x, int door, int times) {
    for (int time = 0; time < times; time++) {
      x.tryLock(door);
    }
  }

  // ---- set-ups

  /** Doors with these combinations, each written as three digits. */
  static BiscuitLocks doors(String... combinations) {
    BiscuitLocks x = new BiscuitLocks();
    for (String combination : combinations) {
      x.addDoor(
          combination.charAt(0) - '0', combination.charAt(1) - '0', combination.charAt(2) - '0');
    }
    return x;
  }

  static BiscuitLocks sixDoors() {
    return doors("395", "001", "555", "999", "123", "456");
  }

  /** The lock 0 is open, has no crumbs and the combination 000; the lock 1 is shut. */
  static BiscuitLocks opened() {
    BiscuitLocks x = doors("000", "395");
    x.tryLock(0);
    return x;
  }

  /** The lock 0 has been broken by seven tries; the lock 1 is shut. */
  static BiscuitLocks broken() {
    BiscuitLocks x = doors("555", "395");
    tryTimes(x, 0, 7);
    return x;
  }

  /** The lock 0 with 9 crumbs is in the oven 0 for 3 hours; the locks 1 and 2 are shut. */
  static BiscuitLocks baking() {
    BiscuitLocks x = doors("555", "395", "001");
    tryTimes(x, 0, 3);
    x.bake(0, 0);
    return x;
  }

  /** The broken lock 0 is in the oven 1 for 6 hours; the lock 1 is shut. */
  static BiscuitLocks brokenAndBaking() {
    BiscuitLocks x = broken();
    x.bake(0, 1);
    return x;
  }
}
