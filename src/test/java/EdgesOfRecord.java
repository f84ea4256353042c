/** Boundaries in "Record", and in the promises 27 to 32, 35, 36 and 38 to 40. */
final class EdgesOfRecord {

  private EdgesOfRecord() {
  }

  static void hold() {
    holdRanks();
    holdRecord();
    holdShutLocks();
    holdTotals();
    holdIsConsistent();
  }

  // ---- promise 27

  private static void holdRanks() {
    Sentences.held(27,
        "Returns the door at a rank when doors are sorted by the crumbs of their locks in"
            + " descending order, then by stepsToOpen in ascending order, then by index in ascending"
            + " order.",
        () -> {
          ranks("all alike", Edges.shutHouse(6), 0, 1, 2, 3, 4, 5);
          ranks("one door", Edges.shutHouse(1), 0);
          ranks("15 to 0 steps", Check.doors("555", "444", "333", "222", "111", "000"),
              5, 4, 3, 2, 1, 0);
          ranks("steps alike in pairs", Check.doors("300", "200", "111", "020", "003", "101"),
              1, 3, 5, 0, 2, 4);
          BiscuitLocks x = Edges.shutHouse(6);
          Check.tryTimes(x, 5, 7);
          Check.tryTimes(x, 3, 6);
          Check.tryTimes(x, 4, 6);
          Check.tryTimes(x, 1, 1);
          ranks("20, 18, 18 and 3 crumbs", x, 5, 3, 4, 1, 0, 2);
          BiscuitLocks crumb = Check.doors("000", "500", "550");
          crumb.tryLock(1);
          ranks("one crumb comes before no steps", crumb, 1, 0, 2);
          crumb.tryLock(2);
          ranks("two crumbs before one, with more steps", crumb, 2, 1, 0);
          crumb.tryLock(1);
          ranks("crumbs alike, fewer steps first", crumb, 1, 2, 0);
        });
    Sentences.held(27, "- `rank`: the rank, counted from 0", () -> {
      BiscuitLocks x = Check.doors("111", "000");
      Check.same("the rank 0", x.doorByCrumbs(0), 1);
      Check.same("the rank 1", x.doorByCrumbs(1), 0);
    });
    Sentences.held(27, "Returns the index of the door.", () -> {
      BiscuitLocks x = Check.doors("111", "111", "111", "111", "111", "000");
      Check.same("the largest index", x.doorByCrumbs(0), 5);
      Check.same("the least index", x.doorByCrumbs(1), 0);
    });
    Sentences.held(27, "Throws `NoSuchElementException` if there is no such rank", () -> {
      for (int doors = 0; doors <= 6; doors++) {
        int count = doors;
        Edges.range("of " + count + " doors, the rank", Edges.ELEMENT, 0, count - 1,
            Edges.lived(() -> Edges.numberedHouse(count)), (x, rank) -> x.doorByCrumbs(rank));
      }
    });
  }

  private static void ranks(String what, BiscuitLocks x, int... due) {
    for (int rank = 0; rank < due.length; rank++) {
      Check.same("doorByCrumbs(" + rank + "), " + what, x.doorByCrumbs(rank), due[rank]);
    }
    Check.thrown("the rank behind the last", Edges.ELEMENT, () -> x.doorByCrumbs(due.length));
  }

  // ---- promises 28 to 30

  private static void holdRecord() {
    Sentences.held("Record",
        "The latest 10 tries are remembered with the door and whether the lock opened.", () -> {
          for (int tries = 0; tries <= 23; tries++) {
            recordAfter(tries);
          }
        });
    Sentences.held(28, "Returns the number of tries that are remembered.", () -> {
      int[] tries = {0, 1, 9, 10, 11, 30};
      int[] due = {0, 1, 9, 10, 10, 10};
      for (int place = 0; place < due.length; place++) {
        Check.same("rememberedTries after " + tries[place],
            afterTries(tries[place]).rememberedTries(), due[place]);
      }
      BiscuitLocks x = afterTries(10);
      x.undo();
      Check.same("rememberedTries when one is undone", x.rememberedTries(), 9);
      BiscuitLocks y = afterTries(11);
      y.undo();
      Check.same("rememberedTries of 11 when one is undone", y.rememberedTries(), 10);
      Check.same("the earliest is remembered again", y.triedDoor(9), 1);
    });
    Sentences.held(29, "- `recency`: 0 for the latest try, 1 for the one before, and so on", () -> {
      BiscuitLocks x = Edges.shutHouse(6);
      for (int door = 0; door < 6; door++) {
        x.tryLock(door);
      }
      for (int recency = 0; recency < 6; recency++) {
        Check.same("triedDoor(" + recency + ")", x.triedDoor(recency), 5 - recency);
      }
    });
    Sentences.held(29, "Returns the index of the door.", () -> {
      BiscuitLocks x = Edges.shutHouse(6);
      x.tryLock(0);
      x.tryLock(5);
      Check.same("the largest index", x.triedDoor(0), 5);
      Check.same("the least index", x.triedDoor(1), 0);
    });
    Sentences.held(29, "Throws `NoSuchElementException` if no such try is remembered", () -> {
      for (int tries = 0; tries <= 12; tries++) {
        int made = tries;
        Edges.range("after " + made + " tries, triedDoor", Edges.ELEMENT, 0,
            Math.min(10, made) - 1, Edges.lived(() -> afterTries(made)),
            (x, recency) -> x.triedDoor(recency));
      }
    });
    Sentences.held(30, "- `recency`: 0 for the latest try, 1 for the one before, and so on", () -> {
      BiscuitLocks x = Check.doors("001", "000");
      x.tryLock(0);
      x.tryLock(1);
      x.tryLock(0);
      Check.same("didOpen(0)", x.didOpen(0), false);
      Check.same("didOpen(1)", x.didOpen(1), true);
      Check.same("didOpen(2)", x.didOpen(2), false);
    });
    Sentences.held(30, "Returns true if it opened.", () -> {
      Check.same("didOpen, opened", Edges.openHouse(1).didOpen(0), true);
      Check.same("didOpen, opened with 19 crumbs", Edges.openWith(19).didOpen(0), true);
      Check.same("didOpen, still shut", Edges.crumbled(19).didOpen(0), false);
      Check.same("didOpen, broken by it", Edges.crumbled(20).didOpen(0), false);
    });
    Sentences.held(30, "Throws `NoSuchElementException` if no such try is remembered", () -> {
      for (int tries = 0; tries <= 12; tries++) {
        int made = tries;
        Edges.range("after " + made + " tries, didOpen", Edges.ELEMENT, 0,
            Math.min(10, made) - 1, Edges.lived(() -> afterTries(made)),
            (x, recency) -> x.didOpen(recency));
      }
    });
  }

  /** The try with the number i, from 0, is of the door (i + 1) % 3; the door 0 opens by it. */
  private static BiscuitLocks afterTries(int tries) {
    BiscuitLocks x = Check.doors("000", "500", "050");
    for (int made = 0; made < tries; made++) {
      x.tryLock((made + 1) % 3);
      if (x.isOpen(0)) {
        x.shut(0);
      }
    }
    return x;
  }

  private static void recordAfter(int tries) {
    BiscuitLocks x = afterTries(tries);
    int remembered = Math.min(10, tries);
    Check.same("rememberedTries", x.rememberedTries(), remembered);
    for (int recency = 0; recency < remembered; recency++) {
      int door = (tries - recency) % 3;
      Check.same("triedDoor(" + recency + ") after " + tries, x.triedDoor(recency), door);
      Check.same("didOpen(" + recency + ") after " + tries, x.didOpen(recency), door == 0);
    }
    Check.thrown("triedDoor(" + remembered + ")", Edges.ELEMENT, () -> x.triedDoor(remembered));
    Check.thrown("didOpen(" + remembered + ")", Edges.ELEMENT, () -> x.didOpen(remembered));
  }

  // ---- promises 31 and 32

  private static void holdShutLocks() {
    Sentences.held(31, "Returns the number of locks that are shut, counted door by door.", () -> {
      for (int doors = 0; doors <= 6; doors++) {
        Check.same("shutLocks, all shut", Edges.shutHouse(doors).shutLocks(), doors);
        Check.same("shutLocks, all open", Edges.openHouse(doors).shutLocks(), 0);
      }
      Check.same("shutLocks, full ovens", Edges.fullOvens().shutLocks(), 1);
      Check.same("shutLocks, broken", Edges.crumbled(20).shutLocks(), 0);
      Check.same("shutLocks, nearly broken", Edges.crumbled(19).shutLocks(), 1);
    });
    Sentences.held(32,
        "Returns the same number as shutLocks, computed from the accounts: the locks that were"
            + " added, baked or shut minus those that were opened, broken by a try or put into an"
            + " oven while they were shut.",
        () -> {
          accounts("an empty house", new BiscuitLocks(), 0);
          accounts("six added", Edges.shutHouse(6), 6);
          accounts("six opened", Edges.openHouse(6), 0);
          accounts("broken by a try", Edges.crumbled(20), 0);
          BiscuitLocks six = Edges.shutHouse(6);
          for (int door = 5; door >= 0; door--) {
            Check.tryTimes(six, door, 7);
            accounts("broken one after another", six, door);
          }
          accounts("a try before that", Edges.crumbled(19), 1);
          accounts("put into ovens while they were shut", Edges.fullOvens(), 1);
          BiscuitLocks x = Edges.fullOvens();
          x.passHours(1);
          accounts("baked", x, 3);
          x.undo();
          accounts("baking undone", x, 1);
          x.undo();
          accounts("put into the second oven, undone", x, 2);
          BiscuitLocks open = Edges.openHouse(2);
          open.bake(0, 0);
          accounts("put into an oven while it was open", open, 0);
          open.passHours(1);
          accounts("baked, and one is open", open, 1);
          open.shut(1);
          accounts("shut", open, 2);
          BiscuitLocks broken = Check.broken();
          broken.bake(0, 0);
          accounts("broken, and put into an oven", broken, 1);
          broken.passHours(6);
          accounts("broken and baked", broken, 2);
        });
  }

  private static void accounts(String what, BiscuitLocks x, int due) {
    Check.same("shutLocksByAccounts, " + what, x.shutLocksByAccounts(), due);
    Check.same("shutLocks, " + what, x.shutLocks(), due);
  }

  // ---- promises 35, 36, 38 and 39

  private static void holdTotals() {
    Sentences.held(35, "Returns how many tries have been made so far.", () -> {
      for (int tries : new int[] {0, 1, 10, 11, 100}) {
        Check.same("tryTotal", totals(tries).tryTotal(), tries);
      }
      BiscuitLocks x = Edges.crumbled(20);
      Check.thrown("tryLock", Edges.STATE, () -> x.tryLock(0));
      Check.same("tryTotal after a refused try", x.tryTotal(), 20);
      x.undo();
      Check.same("tryTotal when one is undone", x.tryTotal(), 19);
    });
    Sentences.held(36, "Returns how many tries have opened a lock so far.", () -> {
      for (int tries : new int[] {0, 1, 10, 11, 100}) {
        Check.same("openedTotal", totals(tries).openedTotal(), tries);
      }
      Check.same("openedTotal, broken by a try", Edges.crumbled(20).openedTotal(), 0);
      BiscuitLocks x = Edges.openHouse(1);
      x.undo();
      Check.same("openedTotal, undone", x.openedTotal(), 0);
    });
    Sentences.held(38,
        "Returns the mean crumbs of all locks: the sum divided by the number, both converted to"
            + " double.",
        EdgesOfRecord::meansFrom0To20);
    Sentences.held(38, "Throws `ArithmeticException` if there are no doors", () -> {
      Edges.refused("meanCrumbs", Edges.ARITHMETIC, BiscuitLocks::new, BiscuitLocks::meanCrumbs);
      Check.refused("meanCrumbs", Edges.ARITHMETIC, BiscuitLocks::new, BiscuitLocks::meanCrumbs);
      BiscuitLocks x = Edges.shutHouse(1);
      Check.same("meanCrumbs of one door", x.meanCrumbs(), 0.0);
      x.undo();
      Check.thrown("meanCrumbs when it is undone", Edges.ARITHMETIC, x::meanCrumbs);
    });
    Sentences.held(39,
        "Returns the quotient of openedTotal and tryTotal, both converted to float.", () -> {
          Check.same("none of one", Edges.crumbled(1).openedShare(), 0.0f);
          Check.same("one of one", Edges.openHouse(1).openedShare(), 1.0f);
          Check.same("six of six", Edges.openHouse(6).openedShare(), 1.0f);
          Check.same("one of two", Edges.shutWith(1, "500").openedShare(), 0.5f);
          Check.same("one of three", Edges.shutWith(2, "500").openedShare(), 1.0f / 3.0f);
          Check.same("one of 20", Edges.openWith(19).openedShare(), 1.0f / 20.0f);
          Check.same("none of 20", Edges.crumbled(20).openedShare(), 0.0f);
        });
    Sentences.held(39, "Throws `ArithmeticException` if there was no try", () -> {
      Edges.refused("openedShare", Edges.ARITHMETIC, BiscuitLocks::new, BiscuitLocks::openedShare);
      Edges.refused("openedShare", Edges.ARITHMETIC,
          () -> Edges.shutHouse(6), BiscuitLocks::openedShare);
      BiscuitLocks x = Edges.openHouse(1);
      x.undo();
      Check.thrown("openedShare when the try is undone", Edges.ARITHMETIC, x::openedShare);
    });
  }

  private static BiscuitLocks totals(int tries) {
    BiscuitLocks x = Check.doors("000");
    for (int made = 0; made < tries; made++) {
      x.tryLock(0);
      x.shut(0);
    }
    return x;
  }

  private static void meansFrom0To20() {
    for (int crumbs = 0; crumbs <= 20; crumbs++) {
      BiscuitLocks x = Edges.crumbled(crumbs);
      Check.same("meanCrumbs of one door", x.meanCrumbs(), (double) crumbs);
      x.addDoor(0, 0, 0);
      Check.same("meanCrumbs of two doors", x.meanCrumbs(), crumbs / 2.0);
      x.addDoor(0, 0, 0);
      Check.same("meanCrumbs of three doors", x.meanCrumbs(), crumbs / 3.0);
    }
    BiscuitLocks x = Edges.shutHouse(6);
    Check.same("meanCrumbs, none", x.meanCrumbs(), 0.0);
    x.tryLock(5);
    Check.same("meanCrumbs, the last of six", x.meanCrumbs(), 0.5);
    for (int door = 0; door < 6; door++) {
      Check.tryTimes(x, door, door == 5 ? 6 : 7);
    }
    Check.same("meanCrumbs, all broken", x.meanCrumbs(), 20.0);
    Check.same("meanCrumbs, in an oven", Check.brokenAndBaking().meanCrumbs(), 10.0);
  }

  // ---- promise 40

  private static void holdIsConsistent() {
    Sentences.held(40,
        "Checks the state: for all locks, both ways to find the steps agree, and every broken lock"
            + " is open; and both ways to count the locks that are shut agree.",
        () -> {
          BiscuitLocks x = Edges.shutHouse(6);
          Check.tryTimes(x, 0, 7);
          Check.tryTimes(x, 5, 7);
          Check.same("two locks are broken", x.isConsistent(), true);
          x.bake(0, 1);
          x.bake(5, 0);
          Check.same("they are in ovens", x.isConsistent(), true);
          x.passHours(6);
          Check.same("they are baked", x.isConsistent(), true);
          x.undo();
          Check.same("that is undone", x.isConsistent(), true);
        });
    Sentences.held(40, "Returns true if all of this holds.", () -> {
      Check.same("isConsistent, no doors", new BiscuitLocks().isConsistent(), true);
      for (int doors = 1; doors <= 6; doors++) {
        Check.same("isConsistent, shut", Edges.shutHouse(doors).isConsistent(), true);
        Check.same("isConsistent, open", Edges.openHouse(doors).isConsistent(), true);
      }
      for (int crumbs = 0; crumbs <= 20; crumbs++) {
        Check.same("isConsistent", Edges.crumbled(crumbs).isConsistent(), true);
        Check.same("isConsistent", Edges.openWith(crumbs).isConsistent(), true);
      }
      Check.same("isConsistent, full ovens", Edges.fullOvens().isConsistent(), true);
      Check.changesNothing("isConsistent", Edges.lived(Edges::fullOvens),
          BiscuitLocks::isConsistent);
    });
  }
}
