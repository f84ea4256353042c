import java.util.NoSuchElementException;

/** Promises 44 to 47: the script buffer and the small command language. */
public final class ScriptTest {

  private static final String FULL = "hour;hour;hour;hour;hour;hour;hour;hour;hour;hour;hour;hour;";

  public static void main(String[] args) {
    promise44Type();
    promise45EachCommand();
    promise45Arguments();
    promise45AllOrNone();
    promise45BufferIsEmptyAfterwards();
    promise45IsOneChange();
    promise46ErrorPosition();
    promise46LatestScript();
    promise47FailedCommand();
    promise47EachMethodThatThrows();
    Check.finish();
  }

  private static void promise44Type() {
    for (int code = 0; code <= 65535; code++) {
      if (code < 32 || code > 126) {
        char bad = (char) code;
        BiscuitLocks x = new BiscuitLocks();
        Check.thrown("type(" + code + ")", IllegalArgumentException.class, () -> x.type(bad));
      }
    }
    BiscuitLocks y = new BiscuitLocks();
    for (int length = 1; length <= 60; length++) {
      Check.same("type", y.type((char) (31 + length)), length);
    }
    Check.thrown("type, full", IllegalStateException.class, () -> y.type('h'));
    Check.thrown("type, full and bad", IllegalArgumentException.class, () -> y.type((char) 127));
    BiscuitLocks x = new BiscuitLocks();
    Check.same("type(126)", x.type((char) 126), 1);
    Check.same("type(32)", x.type((char) 32), 2);
    Check.thrown("undo", NoSuchElementException.class, x::undo);
  }

  private static void promise45EachCommand() {
    BiscuitLocks x = new BiscuitLocks();
    Check.same("runScript", Check.run(x, "door 395"), 1);
    Check.same("door", Check.lockText(x, 0), "000/395c0s");
    Check.same("runScript", Check.run(x, "turn 01+7;turn 02-4"), 2);
    Check.same("turn", Check.lockText(x, 0), "076/395c0s");
    Check.same("runScript", Check.run(x, "try 0"), 1);
    Check.same("try", Check.lockText(x, 0), "076/395c3s");
    Check.same("runScript", Check.run(x, "damp 7"), 1);
    Check.same("damp", x.damp(), 7);
    Check.same("runScript", Check.run(x, "hour"), 1);
    Check.same("hour", x.hour(), 1);
    Check.same("runScript", Check.run(x, "hour 9"), 1);
    Check.same("hour", x.hour(), 10);
    Check.same("runScript", Check.run(x, "hour 60"), 1);
    Check.same("hour", x.hour(), 70);
    Check.same("runScript", Check.run(x, "hour 05"), 1);
    Check.same("hour", x.hour(), 75);
    Check.same("runScript", Check.run(x, "bake 0 1"), 1);
    Check.same("bake", x.bakingHours(1), 1);
    Check.same("runScript", Check.run(x, "hour;door 000;try 1;set 1 123;shut 1"), 5);
    Check.same("set and shut", Check.lockText(x, 1), "000/123c0s");
    Check.same("runScript", Check.run(x, FULL.substring(0, 59)), 12);
    Check.same("hour", x.hour(), 88);
  }

  /** Every number of a command has a value of its own. */
  private static void promise45Arguments() {
    BiscuitLocks x = Check.doors("000", "000", "000", "000");
    Check.run(x, "turn 31+8;turn 10-9;turn 20+0;turn 22-0;try 2;bake 3 1");
    Check.same("the lock 0", Check.lockText(x, 0), "000/000c0s");
    Check.same("the lock 1", Check.lockText(x, 1), "100/000c0s");
    Check.same("the lock 2", Check.lockText(x, 2), "000/000c0o");
    Check.same("the lock 3", Check.lockText(x, 3), "080/000c0b");
    Check.same("the ovens", Check.ovenText(x), "0:- 1:3x1");
    Check.run(x, "set 2 789;bake 1 0;damp 3");
    Check.same("the lock 2", Check.lockText(x, 2), "000/789c0o");
    Check.same("the ovens", Check.ovenText(x), "0:1x1 1:3x1");
    Check.same("damp", x.damp(), 3);
  }

  private static void promise45AllOrNone() {
    Check.refusedScript("door 111;turn 10+5;try 1;damp 9;hour 60;bake 2 1;try 2",
        IllegalStateException.class, Check::baking);
    Check.refusedScript("door 111;turn 10+5;try 1;damp 9;hour 60;bake 2 1;try",
        IllegalArgumentException.class, Check::baking);
    BiscuitLocks x = Check.doors("000");
    x.tryLock(0);
    Check.run(x, "shut 0;turn 00+5;try 0");
    Check.same("a later command sees the earlier ones", Check.lockText(x, 0), "500/000c1s");
  }

  private static void promise45BufferIsEmptyAfterwards() {
    BiscuitLocks x = new BiscuitLocks();
    Check.run(x, "hour");
    Check.same("type after a script", x.type('x'), 1);
    Check.thrown("runScript", IllegalArgumentException.class, x::runScript);
    Check.same("type after a wrong form", x.type('h'), 1);
    Check.typeIn(x, "our 0");
    Check.thrown("runScript", IllegalStateException.class, x::runScript);
    Check.same("type after a failed command", x.type('h'), 1);
    Check.typeIn(x, "our");
    x.save();
    x.passHours(1);
    x.undo();
    x.restore();
    Check.same("undo and restore leave the buffer", x.runScript(), 1);
    Check.thrown("runScript, empty", IllegalArgumentException.class, x::runScript);
  }

  private static void promise45IsOneChange() {
    BiscuitLocks x = Check.doors("000");
    String before = Check.stateOf(x);
    Check.run(x, "try 0;hour 9;damp 5;door 123");
    Check.thrown("runScript", IllegalStateException.class, () -> Check.run(x, "hour;try 9"));
    Check.thrown("runScript", IllegalArgumentException.class, () -> Check.run(x, "hour;"));
    Check.same("undo", x.undo(), 1);
    Check.same("the whole script is undone", Check.stateOf(x), before);
  }

  private static void promise46ErrorPosition() {
    error("", 0);
    error(" ", 0);
    error(";", 0);
    error("x", 0);
    error("Door 123", 0);
    error("0", 0);
    error("hour;", 5);
    error("hour;;", 5);
    error("hour; hour", 5);
    error("hour ", 5);
    error("hour  1", 5);
    error("hour 1 ", 6);
    error("hour 123", 7);
    error("hour x", 5);
    error("hour 1x", 6);
    error("hour -1", 5);
    error("hours", 4);
    error("hou", 3);
    error("ho;", 2);
    error("do", 2);
    error("dx", 1);
    error("daor 1", 2);
    error("domp 1", 2);
    error("door", 4);
    error("door123", 4);
    error("door  123", 5);
    error("door 1", 6);
    error("door 12;", 7);
    error("door 1234", 8);
    error("door 1 2 3", 6);
    error("damp", 4);
    error("damp 10", 6);
    error("damp -1", 5);
    error("t", 1);
    error("tx", 1);
    error("tu", 2);
    error("tr", 2);
    error("turn 00", 7);
    error("turn 001", 7);
    error("turn 00 +1", 7);
    error("turn 00+", 8);
    error("turn 00++", 8);
    error("turn 00+12", 9);
    error("turn 0+1", 6);
    error("try", 3);
    error("try  0", 4);
    error("try 00", 5);
    error("try x", 4);
    error("s", 1);
    error("sx", 1);
    error("sh", 2);
    error("se", 2);
    error("shut 0 ", 6);
    error("set 0", 5);
    error("set 0123", 5);
    error("set 0 12", 8);
    error("set 0 1234", 9);
    error("bake 0", 6);
    error("bake 0,1", 6);
    error("bake 00", 6);
    error("bake 0 ", 7);
    error("bake 0 11", 8);
    error("bake 0 0;set 0 123;shut 0;tri 0", 28);
    error("hour\\", 4);
    error("hour:", 4);
    error("try /", 4);
    error("try :", 4);
    error(FULL, 60);
    error(FULL.substring(0, 59) + " ", 60);
    error("hour 1;hour 2;hour 3;hour 4;hour 5;hour 6;hour 7;hour 8;try ", 60);
  }

  private static void error(String script, int due) {
    BiscuitLocks x = Check.sixDoors();
    Check.thrown("errorPosition", NoSuchElementException.class, x::errorPosition);
    String before = Check.stateOf(x);
    Check.thrown("\"" + script + "\"", IllegalArgumentException.class, () -> Check.run(x, script));
    Check.same("errorPosition of \"" + script + "\"", x.errorPosition(), due);
    Check.same("the state after \"" + script + "\"", Check.stateOf(x), before);
    Check.thrown("failedCommand", NoSuchElementException.class, x::failedCommand);
  }

  private static void promise46LatestScript() {
    BiscuitLocks x = new BiscuitLocks();
    Check.thrown("runScript", IllegalArgumentException.class, () -> Check.run(x, "try 0;x"));
    Check.thrown("runScript", IllegalStateException.class, () -> Check.run(x, "hour;try 0"));
    Check.run(x, "hour");
    Check.same("errorPosition stays", x.errorPosition(), 6);
    x.undo();
    x.save();
    x.restore();
    Check.same("undo and restore do not cover it", x.errorPosition(), 6);
    Check.thrown("runScript", IllegalArgumentException.class, () -> Check.run(x, "x"));
    Check.same("errorPosition, the latest", x.errorPosition(), 0);
    Check.same("failedCommand stays", x.failedCommand(), 1);
  }

  private static void promise47FailedCommand() {
    BiscuitLocks x = new BiscuitLocks();
    Check.thrown("failedCommand", NoSuchElementException.class, x::failedCommand);
    Check.run(x, "hour");
    Check.thrown("failedCommand", NoSuchElementException.class, x::failedCommand);
    Check.thrown("runScript", IllegalStateException.class,
        () -> Check.run(x, "hour;hour;try 0;hour;try 1"));
    Check.same("failedCommand", x.failedCommand(), 2);
    x.save();
    Check.thrown("runScript", IllegalStateException.class, () -> Check.run(x, "try 0"));
    Check.same("failedCommand, the latest", x.failedCommand(), 0);
    Check.thrown("runScript", IllegalStateException.class,
        () -> Check.run(x, "hour;hour;hour;hour;hour;hour;hour;hour;hour;hour;hour 0"));
    x.restore();
    x.passHours(1);
    x.undo();
    Check.same("undo and restore do not cover it", x.failedCommand(), 10);
    Check.thrown("errorPosition", NoSuchElementException.class, x::errorPosition);
  }

  private static void promise47EachMethodThatThrows() {
    failure("door 000;door 111;door 222;door 333", 3);
    failure("turn 30+1", 0);
    failure("hour;turn 13+1", 1);
    failure("turn 00+1", 0);
    failure("try 3", 0);
    failure("try 0", 0);
    failure("shut 9", 0);
    failure("shut 1", 0);
    failure("bake 1 2", 0);
    failure("bake 9 1", 0);
    failure("bake 0 1", 0);
    failure("bake 1 0", 0);
    failure("hour 0", 0);
    failure("hour 00", 0);
    failure("hour 61", 0);
    failure("hour 99", 0);
    failure("set 9 000", 0);
    failure("set 1 000", 0);
    failure("set 0 000", 0);
  }

  private static void failure(String script, int due) {
    Check.refusedScript(script, IllegalStateException.class, Check::baking);
    BiscuitLocks x = Check.baking();
    Check.thrown("\"" + script + "\"", IllegalStateException.class, () -> Check.run(x, script));
    Check.same("failedCommand of \"" + script + "\"", x.failedCommand(), due);
  }
}
