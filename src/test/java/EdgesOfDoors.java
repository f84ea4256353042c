import java.util.function.Consumer;

/** Boundaries in "What it is", "Terms", "Doors and locks", and the promises 1, 2 and 10 to 16. */
final class EdgesOfDoors {

  private static final String NO_DOOR =
      "Throws `IndexOutOfBoundsException` if there is no such door";
  private static final String NO_DOOR_OR_DIAL = NO_DOOR + ", or no such dial";

  private EdgesOfDoors() {
  }

  static void hold() {
    holdTerms();
    holdNewHouseAndAddDoor();
    holdDials();
    holdLocks();
  }

  private static void holdTerms() {
    Sentences.held("What it is",
        "An object is used for at most 512 calls after it has been made; what later calls answer is"
            + " free.",
        EdgesOfDoors::theCall512IsAnswered);
    Sentences.held("Terms", "All integer divisions round down.", EdgesOfDoors::divisionsRoundDown);
    Sentences.held("Doors and locks",
        "At most 6 doors have the indices 0 to n - 1 in the order in which they were added; doors"
            + " are never removed.",
        EdgesOfDoors::sixDoorsInOrder);
    Sentences.held("Doors and locks",
        "Each door has one lock, which has 3 dials with the positions 0 to 9 and a combination,"
            + " which is a position for each dial.",
        EdgesOfDoors::threeDialsOfTenPositions);
    Sentences.held("Doors and locks", "The dial positions of a new lock are 0.",
        EdgesOfDoors::newDialsAre0);
    Sentences.held("Doors and locks",
        "A lock is open or shut, initially shut, and has from 0 to 20 crumbs, initially 0.",
        EdgesOfDoors::shutAnd0CrumbsAtFirst);
    Sentences.held("Doors and locks",
        "A lock with 20 crumbs is broken; a lock that becomes broken by a try is open, although"
            + " this try did not open it, and a broken lock cannot be shut until it is baked.",
        EdgesOfDoors::brokenWith20Crumbs);
  }

  private static void theCall512IsAnswered() {
    BiscuitLocks x = new BiscuitLocks();
    for (int call = 1; call <= 511; call++) {
      x.passHours(60);
    }
    Check.same("hour() as the call 512", x.hour(), 30660);
    Check.same("tryTotal() as the call 512", shutAgain255Times().tryTotal(), 255);
    Check.same("openedTotal() as the call 512", shutAgain255Times().openedTotal(), 255);
    Check.same("rememberedTries() as the call 512", shutAgain255Times().rememberedTries(), 10);
    Check.same("shutLocksByAccounts() as the call 512", shutAgain255Times().shutLocksByAccounts(),
        1);
    Check.same("undo() as the call 512", shutAgain255Times().undo(), 7);
    BiscuitLocks baked = Check.doors("000");
    for (int times = 1; times <= 255; times++) {
      baked.bake(0, times % 2);
      baked.passHours(1);
    }
    Check.same("bakedTotal() as the call 512", baked.bakedTotal(), 255);
  }

  /** 511 calls. */
  private static BiscuitLocks shutAgain255Times() {
    BiscuitLocks x = Check.doors("000");
    for (int times = 1; times <= 255; times++) {
      x.tryLock(0);
      x.shut(0);
    }
    return x;
  }

  private static void divisionsRoundDown() {
    String plays = "000001111122222333334";
    String hours = "111122223333444455556";
    for (int crumbs = 0; crumbs <= 20; crumbs++) {
      BiscuitLocks x = Edges.crumbled(crumbs);
      Check.same("play with " + crumbs + " crumbs", x.play(0), plays.charAt(crumbs) - '0');
      Check.same("bake with " + crumbs + " crumbs", x.bake(0, 0), hours.charAt(crumbs) - '0');
    }
  }

  private static void sixDoorsInOrder() {
    for (int doors = 0; doors <= 6; doors++) {
      BiscuitLocks x = Edges.numberedHouse(doors);
      Check.same("doorCount", x.doorCount(), doors);
      for (int door = 0; door < doors; door++) {
        Check.same("the door " + door, Check.lockText(x, door),
            "000/" + door + (9 - door) + "0c0s");
      }
      int first = doors;
      Check.thrown("the door n", Edges.INDEX, () -> x.isOpen(first));
      Check.thrown("the door -1", Edges.INDEX, () -> x.isOpen(-1));
    }
    BiscuitLocks full = Edges.shutHouse(6);
    Check.thrown("the door that is one too many", Edges.STATE, () -> full.addDoor(0, 0, 0));
    Check.tryTimes(full, 5, 7);
    full.bake(0, 0);
    full.bake(5, 1);
    Check.same("no door is removed by breaking and baking", full.doorCount(), 6);
    full.passHours(6);
    Check.same("no door is removed when it is baked", full.doorCount(), 6);
  }

  private static void threeDialsOfTenPositions() {
    for (int dial = 0; dial < 3; dial++) {
      BiscuitLocks x = Check.doors("999", "000");
      for (int turns = 1; turns <= 10; turns++) {
        x.turn(0, dial, 1);
        Check.same("the dial " + dial + " turned up", x.dial(0, dial), turns % 10);
        x.turn(1, dial, -1);
        Check.same("the dial " + dial + " turned down", x.dial(1, dial), 10 - turns);
      }
      Check.same("the least position", x.combination(1, dial), 0);
      Check.same("the largest position", x.combination(0, dial), 9);
    }
    BiscuitLocks x = Check.doors("000");
    Check.thrown("the dial 3", Edges.INDEX, () -> x.dial(0, 3));
    Check.thrown("the dial -1", Edges.INDEX, () -> x.dial(0, -1));
    Check.thrown("the position 10", Edges.ARGUMENT, () -> x.addDoor(0, 10, 0));
    Check.thrown("the position -1", Edges.ARGUMENT, () -> x.addDoor(0, -1, 0));
  }

  private static void newDialsAre0() {
    BiscuitLocks x = new BiscuitLocks();
    x.setDamp(9);
    for (int door = 0; door < 6; door++) {
      x.addDoor(9, 8, 7);
      for (int dial = 0; dial < 3; dial++) {
        Check.same("the dial " + dial + " of the new lock " + door, x.dial(door, dial), 0);
      }
      Check.turnTo(x, door, 9, 1, 5);
      x.passHours(7);
    }
    x.undo();
    x.undo();
    x.undo();
    x.undo();
    x.undo();
    x.addDoor(1, 2, 3);
    Check.same("a lock that is added again", Check.lockText(x, 5), "000/123c0s");
  }

  private static void shutAnd0CrumbsAtFirst() {
    BiscuitLocks x = new BiscuitLocks();
    for (int door = 0; door < 6; door++) {
      x.addDoor(0, 0, 0);
      Check.same("isOpen at first", x.isOpen(door), false);
      Check.same("crumbs at first", x.crumbs(door), 0);
      x.tryLock(door);
      Check.same("isOpen when opened", x.isOpen(door), true);
    }
    for (String combination : new String[] {"500", "550", "555"}) {
      BiscuitLocks y = Check.doors(combination);
      for (int tries = 0; !y.isOpen(0) && tries < 20; tries++) {
        y.tryLock(0);
      }
      Check.same("the most crumbs of " + combination, y.crumbs(0), 20);
    }
  }

  private static void brokenWith20Crumbs() {
    BiscuitLocks x = Edges.crumbled(19);
    Check.same("isBroken with 19 crumbs", x.isBroken(0), false);
    Check.same("isOpen with 19 crumbs", x.isOpen(0), false);
    Check.same("the try that breaks it", x.tryLock(0), false);
    Check.same("isBroken with 20 crumbs", x.isBroken(0), true);
    Check.same("isOpen with 20 crumbs", x.isOpen(0), true);
    Check.same("didOpen of the try that broke it", x.didOpen(0), false);
    Check.same("openedTotal", x.openedTotal(), 0);
    Check.thrown("shut, broken", Edges.UNSUPPORTED, () -> x.shut(0));
    x.bake(0, 0);
    x.passHours(5);
    Check.same("isBroken an hour before it is baked", x.isBroken(0), true);
    Check.thrown("shut an hour before it is baked", Edges.STATE, () -> x.shut(0));
    x.passHours(1);
    Check.same("isBroken when it is baked", x.isBroken(0), false);
    x.turn(0, 0, 5);
    x.tryLock(0);
    Check.same("shut when it was baked and opened", x.shut(0), 1);
    Check.same("an open lock with 19 crumbs can be shut", Edges.openWith(19).shut(0), 1);
  }

  // ---- promises 1 and 2

  private static void holdNewHouseAndAddDoor() {
    Sentences.held(1, "Creates a house without doors at hour 0.", EdgesOfDoors::emptyHouse);
    Sentences.held(2, "- `first`: the position of the dial 0 in the combination",
        () -> combinationPositions(0, 100));
    Sentences.held(2, "- `second`: the position of the dial 1 in the combination",
        () -> combinationPositions(1, 10));
    Sentences.held(2, "- `third`: the position of the dial 2 in the combination",
        () -> combinationPositions(2, 1));
    Sentences.held(2, "Returns the index of the door.", EdgesOfDoors::addDoorReturns0To5);
    Sentences.held(2, "Throws `IllegalArgumentException` if a position is not between 0 and 9",
        EdgesOfDoors::addDoorTakes0To9);
    Sentences.held(2, "Throws `IllegalStateException` if there are 6 doors",
        EdgesOfDoors::addDoorSixTimes);
  }

  private static void emptyHouse() {
    BiscuitLocks x = new BiscuitLocks();
    Check.same("doorCount", x.doorCount(), 0);
    Check.same("hour", x.hour(), 0);
    Check.same("damp", x.damp(), 0);
    Check.same("shutLocks", x.shutLocks(), 0);
    Check.same("shutLocksByAccounts", x.shutLocksByAccounts(), 0);
    Check.same("the totals", x.tryTotal() + x.openedTotal() + x.bakedTotal(), 0);
    Check.same("rememberedTries", x.rememberedTries(), 0);
    Check.same("isConsistent", x.isConsistent(), true);
    Check.same("renderOvens", Check.ovenText(x), "0:- 1:-");
    Check.same("passHours in an empty house", x.passHours(60), 0);
    Check.same("hour after it", x.hour(), 60);
    notThereAtFirst("the door 0", Edges.INDEX, y -> y.isOpen(0));
    notThereAtFirst("a rank", Edges.ELEMENT, y -> y.doorByCrumbs(0));
    notThereAtFirst("a try", Edges.ELEMENT, y -> y.triedDoor(0));
    notThereAtFirst("a baked door", Edges.ELEMENT, y -> y.bakedDoor(0));
    notThereAtFirst("a character", Edges.INDEX, y -> y.outputAt(0));
    notThereAtFirst("a mean", Edges.ARITHMETIC, y -> y.meanCrumbs());
    notThereAtFirst("a share", Edges.ARITHMETIC, y -> y.openedShare());
    notThereAtFirst("an error position", Edges.ELEMENT, y -> y.errorPosition());
    notThereAtFirst("a failed command", Edges.ELEMENT, y -> y.failedCommand());
    notThereAtFirst("a change", Edges.ELEMENT, y -> y.undo());
    notThereAtFirst("a snapshot", Edges.STATE, y -> y.restore());
  }

  private static void notThereAtFirst(
      String what, Class<? extends RuntimeException> due, Consumer<BiscuitLocks> call) {
    Check.refused(what + " of a new object", due, BiscuitLocks::new, call);
  }

  private static void combinationPositions(int dial, int weight) {
    for (int position : new int[] {0, 1, 8, 9}) {
      BiscuitLocks x = Check.doors(String.format("%03d", position * weight));
      for (int other = 0; other < 3; other++) {
        Check.same("combination(0, " + other + ")", x.combination(0, other),
            other == dial ? position : 0);
      }
      BiscuitLocks y = Check.doors(String.format("%03d", 999 - position * weight));
      for (int other = 0; other < 3; other++) {
        Check.same("combination(0, " + other + ")", y.combination(0, other),
            other == dial ? 9 - position : 9);
      }
    }
  }

  private static void addDoorReturns0To5() {
    BiscuitLocks x = new BiscuitLocks();
    for (int due = 0; due <= 5; due++) {
      Check.same("addDoor", x.addDoor(due, 9 - due, 5), due);
    }
    x.undo();
    x.undo();
    Check.same("addDoor after two undos", x.addDoor(0, 0, 0), 4);
  }

  private static void addDoorTakes0To9() {
    for (int doors : new int[] {0, 5}) {
      Edges.positions(() -> Edges.shutHouse(doors), (x, position) -> x.addDoor(position, 5, 5));
      Edges.positions(() -> Edges.shutHouse(doors), (x, position) -> x.addDoor(0, position, 0));
      Edges.positions(() -> Edges.shutHouse(doors), (x, position) -> x.addDoor(9, 9, position));
    }
    for (int bad : new int[] {-1, 10}) {
      Edges.refused("addDoor to 6 doors, a bad position", Edges.ARGUMENT,
          () -> Edges.shutHouse(6), x -> x.addDoor(bad, bad, bad));
    }
  }

  private static void addDoorSixTimes() {
    for (int doors = 0; doors <= 5; doors++) {
      int present = doors;
      Check.taken("addDoor to " + present, () -> Edges.shutHouse(present), x -> x.addDoor(0, 9, 0));
    }
    Edges.refused("addDoor to 6", Edges.STATE, () -> Edges.shutHouse(6), x -> x.addDoor(0, 0, 0));
    Edges.refused("addDoor to 6", Edges.STATE, () -> Edges.shutHouse(6), x -> x.addDoor(9, 9, 9));
    BiscuitLocks x = Edges.shutHouse(6);
    Check.thrown("the door 7", Edges.STATE, () -> x.addDoor(0, 0, 0));
    Check.thrown("the door 8", Edges.STATE, () -> x.addDoor(0, 0, 0));
    x.undo();
    Check.same("a place is free again", x.addDoor(1, 2, 3), 5);
    Check.thrown("the door 7 again", Edges.STATE, () -> x.addDoor(0, 0, 0));
  }

  // ---- promises 10 to 12

  private static void holdDials() {
    Sentences.held(10, "Returns the number of doors.", EdgesOfDoors::doorCount0To6);
    Sentences.held(11, "Returns the position of a dial.", EdgesOfDoors::dialFrom0To9);
    Sentences.held(11, NO_DOOR_OR_DIAL, () -> {
      Edges.doors(Edges::shutHouse, (x, door) -> x.dial(door, 2));
      Edges.dials(Check::baking, (x, dial) -> x.dial(0, dial));
      Edges.dials(() -> Edges.shutHouse(6), (x, dial) -> x.dial(5, dial));
    });
    Sentences.held(12, "Returns the position of a dial in the combination of a lock.",
        EdgesOfDoors::combinationFrom0To9);
    Sentences.held(12, NO_DOOR_OR_DIAL, () -> {
      Edges.doors(Edges::shutHouse, (x, door) -> x.combination(door, 2));
      Edges.dials(Check::baking, (x, dial) -> x.combination(0, dial));
      Edges.dials(() -> Edges.shutHouse(6), (x, dial) -> x.combination(5, dial));
    });
  }

  private static void doorCount0To6() {
    for (int doors = 0; doors <= 6; doors++) {
      Check.same("doorCount", Edges.shutHouse(doors).doorCount(), doors);
    }
    BiscuitLocks x = Edges.shutHouse(6);
    Check.thrown("addDoor", Edges.STATE, () -> x.addDoor(0, 0, 0));
    Check.same("doorCount after a refused door", x.doorCount(), 6);
    BiscuitLocks y = new BiscuitLocks();
    Check.thrown("addDoor", Edges.ARGUMENT, () -> y.addDoor(0, 0, 10));
    Check.same("doorCount after a refused door", y.doorCount(), 0);
  }

  private static void dialFrom0To9() {
    BiscuitLocks x = Check.sixDoors();
    Check.turnTo(x, 0, 9, 0, 1);
    Check.turnTo(x, 5, 0, 8, 9);
    Check.same("dial(0, 0)", x.dial(0, 0), 9);
    Check.same("dial(0, 1)", x.dial(0, 1), 0);
    Check.same("dial(0, 2)", x.dial(0, 2), 1);
    Check.same("dial(5, 0)", x.dial(5, 0), 0);
    Check.same("dial(5, 1)", x.dial(5, 1), 8);
    Check.same("dial(5, 2)", x.dial(5, 2), 9);
  }

  private static void combinationFrom0To9() {
    BiscuitLocks x = Check.doors("901", "000", "000", "000", "000", "089");
    Check.same("combination(0, 0)", x.combination(0, 0), 9);
    Check.same("combination(0, 1)", x.combination(0, 1), 0);
    Check.same("combination(0, 2)", x.combination(0, 2), 1);
    Check.same("combination(5, 0)", x.combination(5, 0), 0);
    Check.same("combination(5, 1)", x.combination(5, 1), 8);
    Check.same("combination(5, 2)", x.combination(5, 2), 9);
  }

  // ---- promises 13 to 16

  private static void holdLocks() {
    Sentences.held(13, "Returns true if it is open, also if it is broken or in an oven.",
        EdgesOfDoors::openAlsoIfBrokenOrInAnOven);
    Sentences.held(13, NO_DOOR, () -> {
      Edges.doors(Edges::shutHouse, (x, door) -> x.isOpen(door));
      Edges.doors(Edges::openHouse, (x, door) -> x.isOpen(door));
    });
    Sentences.held(14, "Returns true if it has 20 crumbs.", () -> {
      for (int crumbs = 0; crumbs <= 20; crumbs++) {
        Check.same("isBroken with " + crumbs + " crumbs", Edges.crumbled(crumbs).isBroken(0),
            crumbs == 20);
        Check.same("isBroken, open, " + crumbs + " crumbs", Edges.openWith(crumbs).isBroken(0),
            crumbs == 20);
      }
      Check.same("isBroken, in an oven", Check.brokenAndBaking().isBroken(0), true);
    });
    Sentences.held(14, NO_DOOR,
        () -> Edges.doors(Edges::shutHouse, (x, door) -> x.isBroken(door)));
    Sentences.held(15, "Returns the number of crumbs.", () -> {
      for (int crumbs = 0; crumbs <= 20; crumbs++) {
        Check.same("crumbs", Edges.crumbled(crumbs).crumbs(0), crumbs);
        Check.same("crumbs, open", Edges.openWith(crumbs).crumbs(0), crumbs);
      }
      Check.same("crumbs in an oven", Check.brokenAndBaking().crumbs(0), 20);
    });
    Sentences.held(15, NO_DOOR, () -> Edges.doors(Edges::shutHouse, (x, door) -> x.crumbs(door)));
    Sentences.held(16, "Returns the play.", () -> {
      int[] crumbs = {0, 4, 5, 9, 10, 14, 15, 19, 20};
      int[] due = {0, 0, 1, 1, 2, 2, 3, 3, 4};
      for (int place = 0; place < crumbs.length; place++) {
        Check.same("play with " + crumbs[place] + " crumbs",
            Edges.crumbled(crumbs[place]).play(0), due[place]);
      }
      Check.same("play in an oven", Check.brokenAndBaking().play(0), 4);
    });
    Sentences.held(16, NO_DOOR, () -> Edges.doors(Edges::shutHouse, (x, door) -> x.play(door)));
  }

  private static void openAlsoIfBrokenOrInAnOven() {
    Check.same("isOpen, shut", Edges.shutHouse(1).isOpen(0), false);
    Check.same("isOpen, opened", Edges.openHouse(1).isOpen(0), true);
    Check.same("isOpen, shut with 19 crumbs", Edges.crumbled(19).isOpen(0), false);
    Check.same("isOpen, broken", Edges.crumbled(20).isOpen(0), true);
    BiscuitLocks x = Edges.fullOvens();
    Check.same("isOpen, in the oven 0", x.isOpen(0), true);
    Check.same("isOpen, in the oven 1", x.isOpen(1), true);
    Check.same("isOpen, in no oven", x.isOpen(2), false);
    x.passHours(1);
    Check.same("isOpen, baked", x.isOpen(0), false);
  }
}
