/** Boundaries in "Ovens", and in the promises 8, 24 to 26 and 37. */
final class EdgesOfOvens {

  private static final String NO_OVEN =
      "Throws `IndexOutOfBoundsException` if there is no such oven";

  private EdgesOfOvens() {
  }

  static void hold() {
    holdTerms();
    holdBakingInTerms();
    holdBake();
    holdAnswers();
  }

  private static void holdTerms() {
    Sentences.held("Ovens", "There are 2 ovens with the indices 0 and 1.", () -> {
      BiscuitLocks x = Edges.shutHouse(6);
      x.bake(4, 1);
      x.bake(5, 0);
      Check.same("bakedDoor(0)", x.bakedDoor(0), 5);
      Check.same("bakedDoor(1)", x.bakedDoor(1), 4);
      Check.thrown("the oven 2", Edges.INDEX, () -> x.bake(0, 2));
      Check.thrown("the oven -1", Edges.INDEX, () -> x.bake(0, -1));
      Check.thrown("the oven 2", Edges.INDEX, () -> x.bakedDoor(2));
      Check.thrown("the oven -1", Edges.INDEX, () -> x.bakingHours(-1));
    });
    Sentences.held("Ovens",
        "An oven bakes at most one lock at a time, and a lock is in at most one oven.", () -> {
          for (int oven = 0; oven <= 1; oven++) {
            int used = oven;
            BiscuitLocks x = Edges.shutHouse(2);
            x.bake(0, used);
            Check.thrown("a second lock", Edges.UNSUPPORTED, () -> x.bake(1, used));
            Check.thrown("a second oven", Edges.STATE, () -> x.bake(0, 1 - used));
            Check.same("the lock that it bakes", x.bakedDoor(used), 0);
            Check.thrown("the other oven", Edges.ELEMENT, () -> x.bakedDoor(1 - used));
            x.passHours(1);
            Check.same("when it is baked, the second lock", x.bake(1, used), 1);
            Check.same("when it is baked, the other oven", x.bake(0, 1 - used), 1);
          }
        });
    Sentences.held("Ovens",
        "Baking takes 1 hour plus 1 hour for every 4 crumbs that the lock had when it was put into"
            + " the oven, rounded down.",
        EdgesOfOvens::bakingTakes1To6Hours);
  }

  private static void bakingTakes1To6Hours() {
    int[] crumbs = {0, 3, 4, 7, 8, 11, 12, 15, 16, 19, 20};
    int[] due = {1, 1, 2, 2, 3, 3, 4, 4, 5, 5, 6};
    for (int place = 0; place < due.length; place++) {
      for (int oven = 0; oven <= 1; oven++) {
        BiscuitLocks x = Edges.crumbled(crumbs[place]);
        x.bake(0, oven);
        int hours = 0;
        while (x.isBaking(0) && hours < 20) {
          x.passHours(1);
          hours++;
        }
        Check.same("the hours for " + crumbs[place] + " crumbs", hours, due[place]);
      }
    }
  }

  private static void holdBakingInTerms() {
    Sentences.held("Ovens",
        "While a lock is in an oven, it counts as open, it can be neither turned nor shut, its"
            + " combination cannot be set, and it does not drift.",
        () -> {
          BiscuitLocks x = Check.brokenAndBaking();
          x.setDamp(9);
          for (int hour = 1; hour <= 5; hour++) {
            whatIsInAnOvenStays(x);
            x.passHours(1);
          }
          whatIsInAnOvenStays(x);
          x.passHours(1);
          Check.same("isOpen, baked", x.isOpen(0), false);
          Check.same("turn, baked", x.turn(0, 2, 1), 1);
          Check.same("shut lock in an oven", Edges.fullOvens().shutLocks(), 1);
        });
    Sentences.held("Ovens",
        "Its dials and its crumbs stay as they are until the baking is finished.", () -> {
          for (int oven = 0; oven <= 1; oven++) {
            BiscuitLocks x = Edges.crumbled(19);
            Check.turnTo(x, 0, 9, 0, 4);
            x.setDamp(9);
            x.bake(0, oven);
            for (int hour = 0; hour <= 4; hour++) {
              Check.same("the lock after " + hour + " hours", Check.lockText(x, 0),
                  "904/500c19b");
              x.passHours(1);
            }
            Check.same("the lock after 5 hours", Check.lockText(x, 0), "000/500c0s");
          }
        });
    Sentences.held("Ovens",
        "When the baking is finished, the lock is shut, its dial positions are 0, and it has no"
            + " crumbs; its combination stays.",
        EdgesOfOvens::bakedLocksAreAsNew);
  }

  private static void whatIsInAnOvenStays(BiscuitLocks x) {
    Check.same("isOpen, in an oven", x.isOpen(0), true);
    Check.same("the lock", Check.lockText(x, 0), "000/555c20b");
    Check.thrown("turn, in an oven", Edges.STATE, () -> x.turn(0, 0, 1));
    Check.thrown("shut, in an oven", Edges.STATE, () -> x.shut(0));
    Check.thrown("setCombination, in an oven", Edges.STATE, () -> x.setCombination(0, 1, 1, 1));
    Check.thrown("tryLock, in an oven", Edges.STATE, () -> x.tryLock(0));
    Check.same("shutLocks", x.shutLocks(), 1);
  }

  private static void bakedLocksAreAsNew() {
    BiscuitLocks shut = Check.doors("905");
    Check.turnTo(shut, 0, 9, 9, 9);
    shut.bake(0, 0);
    shut.passHours(1);
    Check.same("one that was shut", Check.lockText(shut, 0), "000/905c0s");
    BiscuitLocks open = Edges.openWith(19);
    open.setCombination(0, 9, 0, 5);
    Check.turnTo(open, 0, 1, 9, 8);
    open.bake(0, 1);
    open.passHours(5);
    Check.same("one that was open", Check.lockText(open, 0), "000/905c0s");
    Check.same("play", open.play(0), 0);
    BiscuitLocks broken = Edges.crumbled(20);
    broken.bake(0, 0);
    broken.passHours(6);
    Check.same("one that was broken", Check.lockText(broken, 0), "000/500c0s");
    Check.same("isBroken", broken.isBroken(0), false);
    Check.tryTimes(broken, 0, 19);
    Check.same("it crumbles again", Check.lockText(broken, 0), "000/500c19s");
    Check.same("it can break again", broken.tryLock(0) || !broken.isBroken(0), false);
  }

  // ---- promise 8

  private static void holdBake() {
    Sentences.held(8, "Returns the number of hours that baking takes.", () -> {
      String due = "111122223333444455556";
      for (int crumbs = 0; crumbs <= 20; crumbs++) {
        Check.same("bake with " + crumbs + " crumbs", Edges.crumbled(crumbs).bake(0, 0),
            due.charAt(crumbs) - '0');
        Check.same("bake, open with " + crumbs, Edges.openWith(crumbs).bake(0, 1),
            due.charAt(crumbs) - '0');
      }
    });
    Sentences.held(8,
        "Throws `IndexOutOfBoundsException` if there is no such door, or no such oven",
        EdgesOfOvens::bakeNoSuchDoorOrOven);
    Sentences.held(8, "Throws `IllegalStateException` if the lock is in an oven", () -> {
      for (int oven = 0; oven <= 1; oven++) {
        int other = oven;
        Edges.refused("bake the lock 0 in the oven " + oven, Edges.STATE,
            Check::baking, x -> x.bake(0, other));
        Edges.refused("bake the lock 0, full ovens", Edges.STATE,
            Edges::fullOvens, x -> x.bake(0, other));
        Edges.refused("bake the lock 1, full ovens", Edges.STATE,
            Edges::fullOvens, x -> x.bake(1, other));
      }
      BiscuitLocks x = Check.brokenAndBaking();
      x.passHours(5);
      Check.thrown("bake in the last hour", Edges.STATE, () -> x.bake(0, 0));
      x.passHours(1);
      Check.same("bake when it is baked", x.bake(0, 0), 1);
    });
    Sentences.held(8, "Throws `UnsupportedOperationException` if the oven bakes another lock",
        EdgesOfOvens::bakeInAUsedOven);
  }

  private static void bakeInAUsedOven() {
    Edges.refused("the oven 0, shut", Edges.UNSUPPORTED, Edges::fullOvens, x -> x.bake(2, 0));
    Edges.refused("the oven 1, shut", Edges.UNSUPPORTED, Edges::fullOvens, x -> x.bake(2, 1));
    Edges.refused("the oven 1, its last hour", Edges.UNSUPPORTED, () -> {
      BiscuitLocks x = Check.brokenAndBaking();
      x.passHours(5);
      return x;
    }, x -> x.bake(1, 1));
    Check.taken("the oven beside it", Check::brokenAndBaking, x -> x.bake(1, 0));
    BiscuitLocks x = Edges.fullOvens();
    x.passHours(1);
    Check.same("the oven 0 when it is free", x.bake(2, 0), 1);
  }

  private static void bakeNoSuchDoorOrOven() {
    Edges.doors(Edges::shutHouse, (x, door) -> x.bake(door, 0));
    Edges.doors(Edges::openHouse, (x, door) -> x.bake(door, 1));
    Edges.ovens(() -> Edges.shutHouse(1), (x, oven) -> x.bake(0, oven));
    Edges.ovens(() -> Edges.crumbled(20), (x, oven) -> x.bake(0, oven));
    for (int bad : new int[] {-1, 2}) {
      Edges.refused("bake a lock that is in an oven, no such oven", Edges.INDEX,
          Edges::fullOvens, x -> x.bake(0, bad));
    }
    Edges.refused("bake in an oven that is used, no such door", Edges.INDEX,
        Edges::fullOvens, x -> x.bake(3, 0));
    Edges.refused("bake in an oven that is used, no such door", Edges.INDEX,
        Edges::fullOvens, x -> x.bake(-1, 1));
  }

  // ---- promises 24 to 26 and 37

  private static void holdAnswers() {
    Sentences.held(24, "Returns the index of the door.", () -> {
      BiscuitLocks x = Edges.shutHouse(6);
      x.bake(0, 1);
      x.bake(5, 0);
      Check.same("the largest index", x.bakedDoor(0), 5);
      Check.same("the least index", x.bakedDoor(1), 0);
    });
    Sentences.held(24, NO_OVEN, () -> {
      Edges.ovens(Edges::fullOvens, (x, oven) -> x.bakedDoor(oven));
      for (int bad : new int[] {-1, 2}) {
        Edges.refused("bakedDoor, no such oven, nothing baked", Edges.INDEX,
            BiscuitLocks::new, x -> x.bakedDoor(bad));
      }
    });
    Sentences.held(24, "Throws `NoSuchElementException` if the oven bakes no lock",
        EdgesOfOvens::bakedDoorOfAnEmptyOven);
    Sentences.held(25, "Returns the number of hours for which an oven still bakes.", () -> {
      BiscuitLocks x = Check.brokenAndBaking();
      for (int due = 6; due >= 1; due--) {
        Check.same("bakingHours", x.bakingHours(1), due);
        x.passHours(1);
      }
    });
    Sentences.held(25, "Returns the number of hours, 0 if it bakes no lock.",
        EdgesOfOvens::bakingHours0);
    Sentences.held(25, NO_OVEN, () -> {
      Edges.ovens(Edges::fullOvens, (x, oven) -> x.bakingHours(oven));
      Edges.ovens(BiscuitLocks::new, (x, oven) -> x.bakingHours(oven));
    });
    Sentences.held(26, "Returns true if it is in an oven.", EdgesOfOvens::isBakingUntilItIsBaked);
    Sentences.held(26, "Throws `IndexOutOfBoundsException` if there is no such door",
        () -> Edges.doors(Edges::shutHouse, (x, door) -> x.isBaking(door)));
    Sentences.held(37, "Returns how many bakings have been finished so far.", () -> {
      BiscuitLocks x = new BiscuitLocks();
      Check.same("bakedTotal at first", x.bakedTotal(), 0);
      x = Check.brokenAndBaking();
      x.bake(1, 0);
      Check.same("bakedTotal, both bake", x.bakedTotal(), 0);
      x.passHours(1);
      Check.same("bakedTotal, one is finished", x.bakedTotal(), 1);
      x.passHours(4);
      Check.same("bakedTotal, an hour before the other", x.bakedTotal(), 1);
      x.passHours(1);
      Check.same("bakedTotal, both", x.bakedTotal(), 2);
      x.passHours(60);
      Check.same("bakedTotal, nothing bakes", x.bakedTotal(), 2);
    });
  }

  private static void bakedDoorOfAnEmptyOven() {
    Edges.refused("the oven 0 of an empty house", Edges.ELEMENT,
        BiscuitLocks::new, x -> x.bakedDoor(0));
    Edges.refused("the oven 1 of an empty house", Edges.ELEMENT,
        BiscuitLocks::new, x -> x.bakedDoor(1));
    Edges.refused("the oven 0 beside a used one", Edges.ELEMENT,
        Check::brokenAndBaking, x -> x.bakedDoor(0));
    Edges.refused("the oven 1 beside a used one", Edges.ELEMENT,
        Check::baking, x -> x.bakedDoor(1));
    BiscuitLocks x = Check.brokenAndBaking();
    x.passHours(5);
    Check.same("in the last hour", x.bakedDoor(1), 0);
    x.passHours(1);
    Check.thrown("after the last hour", Edges.ELEMENT, () -> x.bakedDoor(1));
  }

  private static void bakingHours0() {
    BiscuitLocks x = Edges.shutHouse(2);
    Check.same("the oven 0 at first", x.bakingHours(0), 0);
    Check.same("the oven 1 at first", x.bakingHours(1), 0);
    x.passHours(60);
    Check.same("an empty oven after 60 hours", x.bakingHours(0), 0);
    Check.same("the other after 60 hours", x.bakingHours(1), 0);
    x.bake(0, 0);
    x.passHours(1);
    Check.same("when it is baked", x.bakingHours(0), 0);
    x.passHours(2);
    Check.same("two hours later", x.bakingHours(0), 0);
    Check.same("in it again", x.bake(1, 0), 1);
    Check.same("the oven beside it", x.bakingHours(1), 0);
    Check.same("that one", x.bakingHours(0), 1);
  }

  private static void isBakingUntilItIsBaked() {
    BiscuitLocks x = Edges.shutHouse(6);
    x.bake(0, 1);
    x.bake(5, 0);
    for (int door = 0; door < 6; door++) {
      Check.same("isBaking(" + door + ")", x.isBaking(door), door == 0 || door == 5);
    }
    x.passHours(1);
    Check.same("isBaking, baked", x.isBaking(0) || x.isBaking(5), false);
    BiscuitLocks longer = Check.brokenAndBaking();
    longer.passHours(5);
    Check.same("isBaking in the last hour", longer.isBaking(0), true);
    longer.passHours(1);
    Check.same("isBaking after it", longer.isBaking(0), false);
    Check.same("isBaking, broken and in no oven", Edges.crumbled(20).isBaking(0), false);
    Check.same("isBaking, open and in no oven", Edges.openHouse(1).isBaking(0), false);
  }
}
