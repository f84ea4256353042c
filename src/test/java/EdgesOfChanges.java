import java.util.function.Consumer;
import java.util.function.Supplier;

/** Boundaries in "Changes", and in the promises 48 to 50. */
final class EdgesOfChanges {

  private EdgesOfChanges() {
  }

  static void hold() {
    holdWhatAChangeIs();
    holdWhatIsCovered();
    holdExceptions();
    holdUndo();
    holdSnapshot();
  }

  // ---- what is a change, and what is not

  private static void holdWhatAChangeIs() {
    Sentences.held("Changes",
        "A change is a call of addDoor, turn, tryLock, shut, setDamp, bake, passHours,"
            + " setCombination or runScript that returns normally, even if the state is the same"
            + " afterwards.",
        () -> {
          callsThatAreChanges();
          callsThatAreNoChanges();
        });
    Sentences.held("Changes", "The latest 8 changes can be undone, the latest one first.", () -> {
      for (int changes = 0; changes <= 40; changes++) {
        latest8Of(changes);
      }
      undoneAndChangedAgain();
    });
  }

  private static void callsThatAreChanges() {
    Supplier<BiscuitLocks> shut = () -> Edges.shutHouse(5);
    Supplier<BiscuitLocks> open = () -> Edges.openHouse(3);
    isOneChange("addDoor", shut, x -> x.addDoor(1, 2, 3));
    isOneChange("addDoor, the first", BiscuitLocks::new, x -> x.addDoor(0, 0, 0));
    isOneChange("turn", shut, x -> x.turn(4, 2, 9));
    isOneChange("turn by 0", shut, x -> x.turn(0, 0, 0));
    isOneChange("tryLock, opens", () -> Check.doors("000"), x -> x.tryLock(0));
    isOneChange("tryLock, crumbles", shut, x -> x.tryLock(4));
    isOneChange("tryLock, breaks", () -> Edges.crumbled(19), x -> x.tryLock(0));
    isOneChange("shut", open, x -> x.shut(2));
    isOneChange("setDamp", shut, x -> x.setDamp(9));
    isOneChange("setDamp to the same", shut, x -> x.setDamp(0));
    isOneChange("bake, shut", shut, x -> x.bake(4, 1));
    isOneChange("bake, open", open, x -> x.bake(0, 0));
    isOneChange("passHours", Edges::fullOvens, x -> x.passHours(1));
    isOneChange("passHours, the most", Edges::fullOvens, x -> x.passHours(60));
    isOneChange("setCombination", open, x -> x.setCombination(2, 9, 9, 9));
    isOneChange("setCombination to the same", open, x -> x.setCombination(0, 0, 0, 0));
    isOneChange("runScript", shut, x -> Check.run(x, "hour 60;door 123;try 5;damp 9;bake 0 1"));
    isOneChange("runScript, no effect", shut, x -> Check.run(x, "damp 0"));
    isOneChange("runScript, twelve commands", shut, x -> Check.run(x, "hour;".repeat(11) + "hour"));
  }

  /** One undo brings back the state before the call, and the one before that is the next. */
  private static void isOneChange(
      String what, Supplier<BiscuitLocks> setUp, Consumer<BiscuitLocks> call) {
    for (int already : new int[] {0, 1, 7, 8, 9}) {
      BiscuitLocks x = setUp.get();
      x.save();
      x.restore();
      String before = Check.stateOf(x);
      for (int change = 0; change < already; change++) {
        x.setDamp(x.damp());
      }
      call.accept(x);
      Check.same("undo of " + what, x.undo(), Math.min(7, already));
      Check.same("the state when undone: " + what, Check.stateOf(x), before);
      for (int left = Math.min(7, already) - 1; left >= 0; left--) {
        Check.same("undo before " + what, x.undo(), left);
      }
      Check.thrown("undo of nothing", Edges.ELEMENT, x::undo);
    }
  }

  private static void callsThatAreNoChanges() {
    noChange("answers", EdgesOfChanges::askEverything);
    noChange("predictions", EdgesOfChanges::predictEverything);
    noChange("type", x -> Check.typeIn(x, "hour"));
    noChange("save", BiscuitLocks::save);
    noChange("renderLock", x -> x.renderLock(0));
    noChange("renderOvens", BiscuitLocks::renderOvens);
    noChange("isConsistent", BiscuitLocks::isConsistent);
    noChange("a refused change", x -> Check.thrownBy(() -> x.turn(0, 0, 10)));
    noChange("a refused try", x -> Check.thrownBy(() -> x.tryLock(5)));
    noChange("a script without the form", x -> Check.thrownBy(() -> Check.run(x, "hour;")));
    noChange("a script that fails", x -> Check.thrownBy(() -> Check.run(x, "hour;hour 0")));
    noChange("a restore without a snapshot", x -> Check.thrownBy(x::restore));
    noChange("undo and the same change again", x -> {
      x.undo();
      x.passHours(1);
    });
  }

  private static void noChange(String what, Consumer<BiscuitLocks> call) {
    for (int changes : new int[] {1, 7, 8, 9}) {
      BiscuitLocks x = Check.doors("395");
      for (int change = 2; change <= changes; change++) {
        x.passHours(1);
      }
      call.accept(x);
      Check.same("undo after " + what, x.undo(), Math.min(8, changes) - 1);
    }
  }

  private static void askEverything(BiscuitLocks x) {
    Check.stateOf(x);
    for (int door = 0; door < x.doorCount(); door++) {
      x.isBroken(door);
      x.play(door);
      x.fittingDials(door);
      x.stepsToOpen(door);
      x.stepsToOpenByTurning(door);
      x.openingSettings(door);
      x.doorByCrumbs(door);
    }
    x.shutLocks();
    x.isConsistent();
    Check.thrownBy(x::meanCrumbs);
    Check.thrownBy(x::openedShare);
    Check.thrownBy(x::errorPosition);
    Check.thrownBy(x::failedCommand);
    Check.thrownBy(() -> x.outputAt(0));
  }

  private static void predictEverything(BiscuitLocks x) {
    for (int door = 0; door < x.doorCount(); door++) {
      int asked = door;
      Check.thrownBy(() -> x.triesUntilBroken(asked));
      Check.thrownBy(() -> x.hoursUntilFitting(asked));
      x.dialAfter(door, 0, 0);
      x.dialAfter(door, 1, 1);
      x.dialAfter(door, 2, 60);
    }
  }

  private static void latest8Of(int changes) {
    BiscuitLocks x = Edges.afterHours(changes);
    int hour = changes;
    for (int left = Math.min(8, changes) - 1; left >= 0; left--) {
      hour--;
      Check.same("undo of " + changes + " changes", x.undo(), left);
      Check.same("hour when undone", x.hour(), hour);
    }
    Check.thrown("one undo too many of " + changes, Edges.ELEMENT, x::undo);
    Check.same("hour after it", x.hour(), Math.max(0, changes - 8));
  }

  private static void undoneAndChangedAgain() {
    for (int changes = 8; changes <= 20; changes++) {
      for (int undone = 1; undone <= 8; undone++) {
        BiscuitLocks x = Edges.afterHours(changes);
        for (int undo = 0; undo < undone; undo++) {
          x.undo();
        }
        x.passHours(60);
        x.setDamp(3);
        int left = Math.min(8, 8 - undone + 2);
        Check.same("undo of the latest", x.undo(), left - 1);
        Check.same("damp", x.damp(), 0);
        Check.same("undo of the one before", x.undo(), left - 2);
        Check.same("hour", x.hour(), changes - undone);
        for (int more = left - 3; more >= 0; more--) {
          Check.same("undo of those before", x.undo(), more);
        }
        Check.thrown("one undo too many", Edges.ELEMENT, x::undo);
        Check.same("hour at last", x.hour(), undone == 1 ? changes - 7 : changes - 8);
      }
    }
  }

  // ---- what undo and the snapshot cover

  private static void holdWhatIsCovered() {
    Sentences.held("Changes",
        "Undo and the snapshot cover everything except the script buffer, the error position, the"
            + " index of the failed command, the output text and the snapshot itself.",
        () -> {
          String before = Check.stateOf(manyThings());
          BiscuitLocks undone = manyThings();
          changeAll(undone);
          int left = 8;
          for (int changes = 0; changes < 8; changes++) {
            left = undone.undo();
          }
          Check.same("undo of all changes", left, 0);
          Check.same("the state, undone", Check.stateOf(undone), before);
          BiscuitLocks restored = manyThings();
          restored.save();
          changeAll(restored);
          restored.restore();
          Check.same("the state, restored", Check.stateOf(restored), before);
          notCovered("undo", BiscuitLocks::undo);
          notCovered("restore", BiscuitLocks::restore);
        });
    Sentences.held("Changes",
        "Predictions do not change the state and assume that only hours pass.", () -> {
          Check.changesNothing("predictions", Edges.lived(EdgesOfChanges::manyThings),
              EdgesOfChanges::predictEverything);
          Check.changesNothing("predictions", Edges.lived(Edges::fullOvens),
              EdgesOfChanges::predictEverything);
          Check.changesNothing("answers", Edges.lived(EdgesOfChanges::manyThings),
              EdgesOfChanges::askEverything);
          BiscuitLocks x = Edges.shutHouse(1);
          x.setDamp(9);
          Check.same("an open lock stays open", Edges.openHouse(1).dialAfter(0, 1, 60), 0);
          Check.same("dialAfter 60 hours", x.dialAfter(0, 0, 60), 0);
          Check.same("dialAfter 59 hours", x.dialAfter(0, 0, 59), 9);
          Check.same("hour, no hour has passed", x.hour(), 0);
        });
  }

  /** Six doors, both ovens in use, a full record, and every number above 0. */
  private static BiscuitLocks manyThings() {
    BiscuitLocks x = Check.doors("000", "555", "500", "395", "931", "000");
    x.bake(4, 0);
    x.passHours(1);
    x.tryLock(5);
    Check.tryTimes(x, 1, 7);
    Check.tryTimes(x, 2, 8);
    x.setDamp(6);
    x.passHours(4);
    x.bake(1, 0);
    x.bake(2, 1);
    return x;
  }

  /** Eight changes, after which hardly anything is as it was. */
  private static void changeAll(BiscuitLocks x) {
    x.setDamp(9);
    x.passHours(7);
    Check.run(x, "turn 02+5;turn 10-3;turn 41+1;turn 21-9;turn 32+4");
    Check.run(x, "try 1;try 2;try 4;try 3;shut 5;try 5;set 5 222;shut 5;try 4");
    x.bake(0, 1);
    x.turn(5, 0, 4);
    x.bake(3, 0);
    Check.run(x, "try 5;try 5;try 5");
  }

  private static void notCovered(String what, Consumer<BiscuitLocks> call) {
    BiscuitLocks x = Check.doors("000");
    x.save();
    x.passHours(1);
    x.passHours(1);
    Check.thrownBy(() -> Check.run(x, "hour;x"));
    Check.thrownBy(() -> Check.run(x, "hour;hour;try 9"));
    Check.typeIn(x, "hour 7");
    x.renderLock(0);
    call.accept(x);
    Check.same("errorPosition after " + what, x.errorPosition(), 5);
    Check.same("failedCommand after " + what, x.failedCommand(), 2);
    Check.same("the output text after " + what, Whole.outputOf(x), "000/000c0s");
    int before = x.hour();
    Check.same("type after " + what, x.type(';'), 7);
    Check.typeIn(x, "hour");
    Check.same("runScript after " + what, x.runScript(), 2);
    Check.same("the script after " + what, x.hour() - before, 8);
    Check.same("the snapshot after " + what, x.restore(), 1);
    Check.same("what it restores after " + what, x.hour(), 0);
  }

  // ---- exceptions

  private static void holdExceptions() {
    Sentences.held("Changes",
        "A method that throws an exception changes nothing unless its description says otherwise.",
        EdgesOfChanges::refusedCallsChangeNothing);
    Sentences.held("Changes",
        "If several exceptions apply, the one that is listed first is thrown.",
        EdgesOfChanges::theFirstExceptionIsThrown);
  }

  /** One refused call for each exception of each method, in a house that is full of things. */
  private static void refusedCallsChangeNothing() {
    refused(Edges.ARGUMENT, x -> x.addDoor(0, 0, 10));
    refused(Edges.STATE, x -> x.addDoor(0, 0, 0));
    refused(Edges.INDEX, x -> x.turn(6, 0, 1));
    refused(Edges.ARGUMENT, x -> x.turn(0, 0, 10));
    refused(Edges.STATE, x -> x.turn(1, 0, 1));
    refused(Edges.INDEX, x -> x.tryLock(6));
    refused(Edges.STATE, x -> x.tryLock(5));
    refused(Edges.INDEX, x -> x.shut(6));
    refused(Edges.STATE, x -> x.shut(0));
    refused(Edges.STATE, x -> x.shut(1));
    refused(Edges.INDEX, x -> x.setCombination(6, 1, 2, 3));
    refused(Edges.ARGUMENT, x -> x.setCombination(5, 1, 2, 10));
    refused(Edges.STATE, x -> x.setCombination(0, 1, 2, 3));
    refused(Edges.ARGUMENT, x -> x.setDamp(10));
    refused(Edges.INDEX, x -> x.bake(0, 2));
    refused(Edges.STATE, x -> x.bake(1, 1));
    refused(Edges.UNSUPPORTED, x -> x.bake(0, 0));
    refused(Edges.ARGUMENT, x -> x.passHours(61));
    refused(Edges.INDEX, x -> x.dial(6, 0));
    refused(Edges.INDEX, x -> x.combination(0, 3));
    refused(Edges.ELEMENT, x -> x.triesUntilBroken(5));
    refused(Edges.ARGUMENT, x -> x.dialAfter(0, 0, 61));
    refused(Edges.ELEMENT, x -> x.hoursUntilFitting(1));
    refused(Edges.ELEMENT, x -> x.doorByCrumbs(6));
    refused(Edges.ELEMENT, x -> x.triedDoor(10));
    refused(Edges.ELEMENT, x -> x.didOpen(10));
    refused(Edges.INDEX, x -> x.renderLock(6));
    refused(Edges.INDEX, x -> x.outputAt(11));
    refused(Edges.ARGUMENT, x -> x.type((char) 127));
    Edges.refused("shut, broken", Edges.UNSUPPORTED, () -> Edges.crumbled(20), x -> x.shut(0));
    Edges.refused("bakedDoor", Edges.ELEMENT, Check::baking, x -> x.bakedDoor(1));
    Check.refused("undo", Edges.ELEMENT, BiscuitLocks::new, BiscuitLocks::undo);
    Check.refused("restore", Edges.STATE, Edges::fullOvens, BiscuitLocks::restore);
    Check.refusedScript("hour 60;try 3;", Edges.ARGUMENT, EdgesOfChanges::manyThings);
    Check.refusedScript("hour 60;try 3;bake 9 0", Edges.STATE, EdgesOfChanges::manyThings);
  }

  private static void refused(Class<? extends RuntimeException> due, Consumer<BiscuitLocks> call) {
    Edges.refused("a refused call", due, EdgesOfChanges::manyThings, call);
  }

  private static void theFirstExceptionIsThrown() {
    first("addDoor: position, 6 doors", Edges.ARGUMENT, x -> x.addDoor(10, 0, 0));
    first("turn: door, steps", Edges.INDEX, x -> x.turn(6, 0, 10));
    first("turn: dial, steps", Edges.INDEX, x -> x.turn(0, 3, 10));
    first("turn: dial, in an oven", Edges.INDEX, x -> x.turn(1, 3, 1));
    first("turn: steps, in an oven", Edges.ARGUMENT, x -> x.turn(1, 0, 10));
    first("turn: dial, steps, in an oven", Edges.INDEX, x -> x.turn(1, 3, 10));
    first("shut: in an oven, broken", Edges.STATE, x -> x.shut(1));
    first("setCombination: door, position", Edges.INDEX, x -> x.setCombination(6, 10, 0, 0));
    first("setCombination: position, shut", Edges.ARGUMENT, x -> x.setCombination(0, 10, 0, 0));
    first("setCombination: position, in an oven", Edges.ARGUMENT,
        x -> x.setCombination(1, 0, 0, -1));
    first("bake: door, used", Edges.INDEX, x -> x.bake(6, 0));
    first("bake: oven, in an oven", Edges.INDEX, x -> x.bake(1, 2));
    first("bake: in an oven, used by another", Edges.STATE, x -> x.bake(1, 1));
    first("dialAfter: door, hours", Edges.INDEX, x -> x.dialAfter(6, 0, 61));
    first("dialAfter: dial, hours", Edges.INDEX, x -> x.dialAfter(0, 3, -1));
    first("type: character, full", Edges.ARGUMENT, x -> {
      Check.typeIn(x, " ".repeat(60));
      x.type((char) 31);
    });
    first("runScript: form, command", Edges.ARGUMENT, x -> Check.run(x, "try 9;x"));
  }

  private static void first(
      String what, Class<? extends RuntimeException> due, Consumer<BiscuitLocks> call) {
    Check.thrown(what, due, () -> call.accept(manyThings()));
  }

  // ---- promise 48

  private static void holdUndo() {
    Sentences.held(48, "Undoes the latest change that has not been undone.", () -> {
      BiscuitLocks x = new BiscuitLocks();
      x.passHours(1);
      x.passHours(2);
      x.passHours(4);
      x.undo();
      Check.same("the latest", x.hour(), 3);
      x.undo();
      Check.same("the latest that has not been undone", x.hour(), 1);
      x.passHours(8);
      Check.same("another change", x.hour(), 9);
      x.undo();
      Check.same("that is the latest", x.hour(), 1);
      x.undo();
      Check.same("the first", x.hour(), 0);
      for (int door = 0; door < 6; door++) {
        x.addDoor(door, 0, 9);
      }
      x.turn(5, 2, -1);
      Check.same("the last lock of six", Check.lockText(x, 5), "009/509c0s");
      x.undo();
      Check.same("its turn undone", Check.lockText(x, 5), "000/509c0s");
      for (int left = 5; left >= 0; left--) {
        x.undo();
        Check.same("doorCount", x.doorCount(), left);
      }
    });
    Sentences.held(48, "Returns the number of changes that can still be undone.", () -> {
      for (int changes = 1; changes <= 17; changes++) {
        BiscuitLocks x = Edges.afterHours(changes);
        for (int due = Math.min(8, changes) - 1; due >= 0; due--) {
          Check.same("undo", x.undo(), due);
        }
      }
    });
    Sentences.held(48, "Throws `NoSuchElementException` if there is nothing to undo", () -> {
      Check.refused("undo, a new object", Edges.ELEMENT, BiscuitLocks::new, BiscuitLocks::undo);
      for (int changes : new int[] {1, 7, 8, 9, 16, 17}) {
        Check.refused("undo, all undone", Edges.ELEMENT, () -> allUndone(changes),
            BiscuitLocks::undo);
        Check.refused("undo, restored", Edges.ELEMENT, () -> restored(changes),
            BiscuitLocks::undo);
      }
      Check.refused("undo, no change but refused ones", Edges.ELEMENT, () -> {
        BiscuitLocks x = new BiscuitLocks();
        Check.thrownBy(() -> x.passHours(0));
        Check.thrownBy(() -> Check.run(x, "hour;hour 0"));
        x.save();
        return x;
      }, BiscuitLocks::undo);
      BiscuitLocks x = new BiscuitLocks();
      Check.thrown("undo", Edges.ELEMENT, x::undo);
      x.passHours(1);
      Check.same("undo after a refused one", x.undo(), 0);
    });
  }

  private static BiscuitLocks allUndone(int changes) {
    BiscuitLocks x = Edges.afterHours(changes);
    for (int undo = 0; undo < Math.min(8, changes); undo++) {
      x.undo();
    }
    return x;
  }

  private static BiscuitLocks restored(int changes) {
    BiscuitLocks x = Edges.afterHours(changes);
    x.save();
    x.restore();
    return x;
  }

  // ---- promises 49 and 50

  private static void holdSnapshot() {
    Sentences.held(49, "Takes a snapshot, which replaces an earlier one.", () -> {
      BiscuitLocks x = new BiscuitLocks();
      x.save();
      x.passHours(60);
      x.save();
      x.passHours(1);
      x.restore();
      Check.same("the later snapshot", x.hour(), 60);
      x.save();
      x.restore();
      Check.same("a snapshot of what was restored", x.hour(), 60);
      Check.same("save in a full house", fullSnapshot().restore(), 6);
      Check.same("its last lock", Check.lockText(fullSnapshot(), 5), "000/555c20b");
    });
    Sentences.held(49, "Returns the number of doors.", () -> {
      for (int doors = 0; doors <= 6; doors++) {
        Check.same("save", Edges.shutHouse(doors).save(), doors);
      }
    });
    Sentences.held(50, "Restores the snapshot, which is kept.", () -> {
      BiscuitLocks x = fullSnapshot();
      String saved = Check.stateOf(x);
      for (int times = 1; times <= 3; times++) {
        x.passHours(60);
        x.tryLock(5);
        Check.same("restore", x.restore(), 6);
      }
      Check.same("the state after three restores", Check.stateOf(x), saved);
    });
    Sentences.held(50, "Afterwards there is nothing to undo.", () -> {
      for (int changes : new int[] {0, 1, 7, 8, 9, 17}) {
        BiscuitLocks x = restored(changes);
        Check.thrown("undo after restore", Edges.ELEMENT, x::undo);
        for (int change = 1; change <= 9; change++) {
          x.passHours(1);
        }
        for (int left = 7; left >= 0; left--) {
          Check.same("undo of the changes after restore", x.undo(), left);
        }
        Check.same("hour", x.hour(), changes + 1);
        Check.thrown("one undo too many", Edges.ELEMENT, x::undo);
      }
    });
    Sentences.held(50, "Returns the number of doors.", () -> {
      for (int doors = 0; doors <= 6; doors++) {
        BiscuitLocks x = Edges.shutHouse(doors);
        x.save();
        if (doors < 6) {
          x.addDoor(0, 0, 0);
        }
        Check.same("restore", x.restore(), doors);
        Check.same("doorCount", x.doorCount(), doors);
      }
      BiscuitLocks x = Edges.shutHouse(6);
      x.save();
      for (int undo = 0; undo < 6; undo++) {
        x.undo();
      }
      Check.same("restore into an empty house", x.restore(), 6);
    });
    Sentences.held(50, "Throws `IllegalStateException` if there is no snapshot", () -> {
      Check.refused("restore, a new object", Edges.STATE, BiscuitLocks::new, BiscuitLocks::restore);
      Check.refused("restore, full ovens", Edges.STATE, Edges::fullOvens, BiscuitLocks::restore);
      Check.refused("restore after 9 changes", Edges.STATE,
          () -> Edges.afterHours(9), BiscuitLocks::restore);
      Check.taken("restore of an empty house", () -> {
        BiscuitLocks x = new BiscuitLocks();
        x.save();
        return x;
      }, BiscuitLocks::restore);
    });
  }

  /** Six locks, the last of them broken and in an oven, with a snapshot. */
  private static BiscuitLocks fullSnapshot() {
    BiscuitLocks x = Edges.shutHouse(6);
    Check.tryTimes(x, 5, 7);
    x.bake(5, 0);
    x.save();
    return x;
  }
}
