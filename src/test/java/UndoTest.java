import java.util.NoSuchElementException;
import java.util.function.Consumer;

/** Promises 48 to 50: undo and the snapshot. */
public final class UndoTest {

  public static void main(String[] args) {
    promise48EachChange();
    promise48Latest8();
    promise48WhatIsNoChange();
    promise48RefusedCalls();
    promise49Save();
    promise50Restore();
    Check.finish();
  }

  private static void promise48EachChange() {
    undone("addDoor", Check.doors("395"), x -> x.addDoor(9, 8, 7));
    undone("turn", Check.opened(), x -> x.turn(0, 1, 3));
    undone("turn by 0", Check.opened(), x -> x.turn(0, 1, 0));
    undone("tryLock that opens", Check.doors("000"), x -> x.tryLock(0));
    undone("tryLock that crumbles", Check.doors("395"), x -> x.tryLock(0));
    BiscuitLocks crumbled = Check.doors("555");
    Check.tryTimes(crumbled, 0, 6);
    undone("tryLock that breaks", crumbled, x -> x.tryLock(0));
    BiscuitLocks full = Check.doors("500", "000");
    full.tryLock(1);
    Check.tryTimes(full, 0, 9);
    undone("tryLock with a full record", full, x -> x.tryLock(0));
    undone("shut", Check.opened(), x -> x.shut(0));
    undone("setDamp", Check.opened(), x -> x.setDamp(4));
    undone("setDamp, the same", Check.opened(), x -> x.setDamp(0));
    undone("bake a shut lock", Check.opened(), x -> x.bake(1, 1));
    undone("bake a broken lock", Check.broken(), x -> x.bake(0, 0));
    undone("passHours", Check.baking(), x -> x.passHours(60));
    undone("passHours, one", Check.baking(), x -> x.passHours(1));
    undone("setCombination", Check.opened(), x -> x.setCombination(0, 1, 2, 3));
    undone("runScript", Check.baking(),
        x -> Check.run(x, "damp 8;hour 40;door 555;try 3;bake 3 0"));
  }

  private static void undone(String what, BiscuitLocks x, Consumer<BiscuitLocks> change) {
    String before = Check.stateOf(x);
    x.setDamp(x.damp());
    x.setDamp(x.damp());
    change.accept(x);
    int left = x.undo();
    Check.same("the state when undone: " + what, Check.stateOf(x), before);
    Check.same("isConsistent when undone: " + what, x.isConsistent(), true);
    Check.same("one undo for one change: " + what, x.undo(), left - 1);
  }

  private static void promise48Latest8() {
    BiscuitLocks x = new BiscuitLocks();
    for (int hour = 1; hour <= 11; hour++) {
      x.passHours(1);
    }
    for (int left = 7; left >= 0; left--) {
      Check.same("undo", x.undo(), left);
      Check.same("hour", x.hour(), 3 + left);
    }
    Check.thrown("undo, nothing left", NoSuchElementException.class, x::undo);
    Check.same("hour", x.hour(), 3);
    x.passHours(5);
    x.passHours(5);
    Check.same("undo", x.undo(), 1);
    x.passHours(7);
    Check.same("undo", x.undo(), 1);
    Check.same("hour", x.hour(), 8);
    Check.same("undo", x.undo(), 0);
    Check.same("hour", x.hour(), 3);
    for (int hour = 1; hour <= 8; hour++) {
      x.passHours(1);
    }
    Check.same("undo", x.undo(), 7);
    Check.same("undo", x.undo(), 6);
    x.passHours(60);
    Check.same("undo", x.undo(), 6);
    Check.same("hour", x.hour(), 9);
  }

  private static void promise48WhatIsNoChange() {
    BiscuitLocks x = Check.doors("000");
    x.tryLock(0);
    x.save();
    x.type('x');
    x.renderLock(0);
    x.renderOvens();
    x.isConsistent();
    x.hoursUntilFitting(0);
    x.dialAfter(0, 0, 9);
    Check.thrown("runScript", IllegalArgumentException.class, x::runScript);
    Check.thrown("turn", IllegalArgumentException.class, () -> x.turn(0, 0, 10));
    Check.thrown("tryLock", IllegalStateException.class, () -> x.tryLock(0));
    Check.same("undo", x.undo(), 1);
    Check.same("the try is undone", x.tryTotal(), 0);
    Check.same("undo", x.undo(), 0);
    Check.same("the door is undone", x.doorCount(), 0);
    Check.same("addDoor", x.addDoor(1, 2, 3), 0);
    Check.same("the new lock", Check.lockText(x, 0), "000/123c0s");
  }

  /** A refused call is no change, so that it does not drop the oldest change either. */
  private static void promise48RefusedCalls() {
    BiscuitLocks x = new BiscuitLocks();
    for (int hour = 1; hour <= 8; hour++) {
      x.passHours(1);
    }
    Check.thrown("passHours", IllegalArgumentException.class, () -> x.passHours(0));
    Check.thrown("runScript", IllegalStateException.class, () -> Check.run(x, "hour;try 0"));
    for (int left = 7; left >= 0; left--) {
      Check.same("undo", x.undo(), left);
      Check.same("hour", x.hour(), left);
    }
    Check.refused("undo, nothing to undo", NoSuchElementException.class,
        BiscuitLocks::new, BiscuitLocks::undo);
  }

  private static void promise49Save() {
    BiscuitLocks x = Check.doors("000", "395");
    Check.same("save", x.save(), 2);
    x.addDoor(1, 2, 3);
    x.tryLock(0);
    Check.same("save", x.save(), 3);
    String saved = Check.stateOf(x);
    x.passHours(60);
    x.bake(1, 0);
    Check.same("restore", x.restore(), 3);
    Check.same("the later snapshot", Check.stateOf(x), saved);
    BiscuitLocks y = Check.opened();
    String before = Check.stateOf(y);
    y.save();
    Check.same("save changes nothing", Check.stateOf(y), before);
    Check.same("save leaves the changes", y.undo(), 2);
    Check.same("save, no doors", new BiscuitLocks().save(), 0);
  }

  private static void promise50Restore() {
    Check.refused("restore, no snapshot", IllegalStateException.class,
        Check::baking, BiscuitLocks::restore);
    BiscuitLocks x = Check.baking();
    x.setDamp(6);
    String saved = Check.stateOf(x);
    x.save();
    x.passHours(4);
    Check.tryTimes(x, 0, 4);
    x.addDoor(1, 1, 1);
    x.setDamp(2);
    Check.same("restore", x.restore(), 3);
    Check.same("the state restored", Check.stateOf(x), saved);
    Check.thrown("undo after restore", NoSuchElementException.class, x::undo);
    x.passHours(2);
    Check.same("undo of a change after restore", x.undo(), 0);
    Check.same("the state", Check.stateOf(x), saved);
    x.passHours(30);
    x.turn(1, 1, 1);
    Check.same("the snapshot is kept", x.restore(), 3);
    Check.same("the state restored again", Check.stateOf(x), saved);
    Check.same("isConsistent", x.isConsistent(), true);
    BiscuitLocks y = Check.doors("395", "001");
    y.save();
    y.undo();
    y.undo();
    Check.same("undo does not cover the snapshot", y.restore(), 2);
    BiscuitLocks empty = new BiscuitLocks();
    empty.save();
    empty.addDoor(1, 2, 3);
    Check.same("restore, no doors", empty.restore(), 0);
    Check.same("doorCount", empty.doorCount(), 0);
  }
}
