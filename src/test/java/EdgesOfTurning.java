/** Boundaries in "Turning and trying", and in the promises 3 to 6 and 17 to 21. */
final class EdgesOfTurning {

  private static final String NO_DOOR =
      "Throws `IndexOutOfBoundsException` if there is no such door";
  private static final int[] DISTANCE_OF_0 = {0, 1, 2, 3, 4, 5, 4, 3, 2, 1};

  private EdgesOfTurning() {
  }

  static void hold() {
    holdTerms();
    holdTurn();
    holdTryLock();
    holdShut();
    holdSetCombination();
    holdSteps();
    holdTriesUntilBroken();
  }

  private static void holdTerms() {
    Sentences.held("Turning and trying",
        "A dial is turned by a number of steps, upwards or downwards, where 0 follows 9.",
        EdgesOfTurning::zeroFollows9);
    Sentences.held("Turning and trying",
        "The distance of two positions is the smallest number of steps between them, from 0 to 5.",
        EdgesOfTurning::distancesFrom0To5);
    Sentences.held("Turning and trying",
        "A dial fits if the distance of its position and the position in the combination is at most"
            + " the play of the lock, which is its crumbs divided by 5.",
        EdgesOfTurning::fitsUpToThePlay);
    Sentences.held("Turning and trying", "A lock that is tried opens if all dials fit.",
        EdgesOfTurning::opensIfAllFit);
    Sentences.held("Turning and trying",
        "Otherwise its crumbs increase by the number of dials that do not fit, but not above 20.",
        EdgesOfTurning::crumbsNotAbove20);
    Sentences.held("Turning and trying", "Shutting a lock does not change its dials.",
        EdgesOfTurning::shuttingKeepsDials);
  }

  private static void zeroFollows9() {
    for (int dial = 0; dial < 3; dial++) {
      BiscuitLocks x = Check.doors("555");
      Check.same("0 downwards by 1", x.turn(0, dial, -1), 9);
      Check.same("9 upwards by 1", x.turn(0, dial, 1), 0);
      Check.same("0 downwards by 9", x.turn(0, dial, -9), 1);
      Check.same("1 upwards by 9", x.turn(0, dial, 9), 0);
      Check.same("0 upwards by 9", x.turn(0, dial, 9), 9);
      Check.same("9 upwards by 9", x.turn(0, dial, 9), 8);
      Check.same("8 upwards by 2", x.turn(0, dial, 2), 0);
      Check.same("0 upwards by 5", x.turn(0, dial, 5), 5);
      Check.same("5 downwards by 6", x.turn(0, dial, -6), 9);
      Check.same("9 downwards by 9", x.turn(0, dial, -9), 0);
      for (int other = 0; other < 3; other++) {
        Check.same("the dial beside it", x.dial(0, other), 0);
      }
    }
  }

  private static void distancesFrom0To5() {
    for (int position = 0; position <= 9; position++) {
      BiscuitLocks x = Edges.openWith(0);
      x.turn(0, 0, position);
      for (int due = 0; due <= 9; due++) {
        x.setCombination(0, due, 0, 0);
        int distance = DISTANCE_OF_0[Math.floorMod(due - position, 10)];
        Check.same("the distance of " + position + " and " + due, x.stepsToOpen(0), distance);
        Check.same("found by turning", x.stepsToOpenByTurning(0), distance);
      }
    }
  }

  private static void fitsUpToThePlay() {
    for (int crumbs : new int[] {0, 4, 5, 9, 10, 14, 15, 19, 20}) {
      for (int dial = 0; dial < 3; dial++) {
        BiscuitLocks x = Edges.openWith(crumbs);
        for (int turns = 0; turns <= 9; turns++) {
          boolean fits = DISTANCE_OF_0[turns] <= crumbs / 5;
          Check.same("fittingDials with " + crumbs + " crumbs, the dial " + dial + " at " + turns,
              x.fittingDials(0), fits ? 3 : 2);
          x.turn(0, dial, 1);
        }
      }
    }
  }

  private static void opensIfAllFit() {
    for (String near : new String[] {"100", "010", "001", "900", "090", "009", "011", "101"}) {
      Check.same("a dial one step beyond the play 0", Edges.shutWith(4, near).tryLock(0), false);
      Check.same("all dials in the play 1", Edges.shutWith(5, near).tryLock(0), true);
    }
    Check.same("all at 0", Edges.shutWith(0, "000").tryLock(0), true);
    Check.same("the play 3 on both sides", Edges.shutWith(19, "373").tryLock(0), true);
    Check.same("one beyond the play 3", Edges.shutWith(19, "374").tryLock(0), false);
    Check.same("one beyond the play 3", Edges.shutWith(19, "673").tryLock(0), false);
    Check.same("one beyond the play 2", Edges.shutWith(14, "373").tryLock(0), false);
    BiscuitLocks x = Edges.shutWith(19, "373");
    x.tryLock(0);
    Check.same("opening adds no crumbs", Check.lockText(x, 0), "000/373c19o");
  }

  private static void crumbsNotAbove20() {
    String[] combinations = {"500", "050", "055", "505", "555"};
    int[] misfits = {1, 1, 2, 2, 3};
    for (int place = 0; place < misfits.length; place++) {
      for (int crumbs : new int[] {0, 4, 16, 17, 18, 19}) {
        BiscuitLocks x = Edges.shutWith(crumbs, combinations[place]);
        Check.same("tryLock", x.tryLock(0), false);
        int due = Math.min(20, crumbs + misfits[place]);
        Check.same(crumbs + " crumbs and " + misfits[place] + " more", x.crumbs(0), due);
        Check.same("isOpen with " + due + " crumbs", x.isOpen(0), due == 20);
      }
    }
  }

  private static void shuttingKeepsDials() {
    BiscuitLocks x = Edges.openWith(19);
    Check.turnTo(x, 0, 9, 0, 5);
    x.setCombination(0, 1, 2, 3);
    x.shut(0);
    Check.same("the lock that was shut", Check.lockText(x, 0), "905/123c19s");
  }

  // ---- promise 3

  private static void holdTurn() {
    Sentences.held(3, "- `steps`: the number of steps, negative for turning downwards", () -> {
      for (int steps = -9; steps <= 9; steps++) {
        BiscuitLocks x = Check.doors("555");
        x.turn(0, 1, steps);
        Check.same("0 turned by " + steps, x.dial(0, 1), (10 + steps) % 10);
      }
    });
    Sentences.held(3, "Returns the position of the dial after the call.", () -> {
      for (int from = 0; from <= 9; from++) {
        for (int steps : new int[] {-9, -1, 0, 1, 9}) {
          BiscuitLocks x = Check.doors("555");
          x.turn(0, 2, from);
          Check.same(from + " turned by " + steps, x.turn(0, 2, steps), (from + 10 + steps) % 10);
        }
      }
    });
    Sentences.held(3, NO_DOOR + ", or no such dial", EdgesOfTurning::turnNoSuchDoorOrDial);
    Sentences.held(3, "Throws `IllegalArgumentException` if steps is not between -9 and 9",
        EdgesOfTurning::turnTakes9StepsEachWay);
    Sentences.held(3, "Throws `IllegalStateException` if the lock is in an oven",
        EdgesOfTurning::turnInAnOven);
  }

  private static void turnNoSuchDoorOrDial() {
    Edges.doors(Edges::shutHouse, (x, door) -> x.turn(door, 2, -9));
    Edges.doors(Edges::openHouse, (x, door) -> x.turn(door, 0, 9));
    Edges.dials(() -> Edges.shutHouse(1), (x, dial) -> x.turn(0, dial, 1));
    Edges.dials(() -> Edges.shutHouse(6), (x, dial) -> x.turn(5, dial, 0));
    for (int bad : new int[] {-1, 3}) {
      Edges.refused("turn in an oven by 10, no such dial", Edges.INDEX,
          Edges::fullOvens, x -> x.turn(0, bad, 10));
      Edges.refused("turn in an oven, no such dial", Edges.INDEX,
          Edges::fullOvens, x -> x.turn(1, bad, 1));
      Edges.refused("turn by -10, no such door", Edges.INDEX,
          Edges::fullOvens, x -> x.turn(bad, 0, -10));
      Edges.refused("turn by 10, no such dial", Edges.INDEX,
          Edges::fullOvens, x -> x.turn(2, bad, 10));
    }
  }

  private static void turnTakes9StepsEachWay() {
    for (int dial = 0; dial < 3; dial++) {
      int turned = dial;
      Edges.range("turn, steps", Edges.ARGUMENT, -9, 9,
          Edges.lived(Check::broken), (x, steps) -> x.turn(1, turned, steps));
    }
    for (int bad : new int[] {-10, 10, Integer.MIN_VALUE, Integer.MAX_VALUE}) {
      Edges.refused("turn in an oven", Edges.ARGUMENT, Edges::fullOvens, x -> x.turn(0, 0, bad));
    }
  }

  private static void turnInAnOven() {
    for (int dial = 0; dial < 3; dial++) {
      for (int steps : new int[] {-9, 0, 9}) {
        int turned = dial;
        Edges.refused("turn in the oven 0", Edges.STATE,
            Edges::fullOvens, x -> x.turn(0, turned, steps));
        Edges.refused("turn in the oven 1", Edges.STATE,
            Edges::fullOvens, x -> x.turn(1, turned, steps));
        Check.taken("turn beside full ovens", Edges::fullOvens, x -> x.turn(2, turned, steps));
      }
    }
    BiscuitLocks x = Edges.crumbled(8);
    x.bake(0, 1);
    x.passHours(2);
    Check.thrown("turn in the last hour of baking", Edges.STATE, () -> x.turn(0, 0, 1));
    x.passHours(1);
    Check.same("turn when it is baked", x.turn(0, 0, 1), 1);
  }

  // ---- promise 4

  private static void holdTryLock() {
    Sentences.held(4, "Tries a lock that is shut.", () -> {
      BiscuitLocks x = Check.doors("000", "001");
      x.tryLock(1);
      Check.same("a shut lock is tried", x.tryTotal(), 1);
      Check.same("its crumbs", Check.lockText(x, 1), "000/001c1s");
      Check.same("the lock beside it", Check.lockText(x, 0), "000/000c0s");
    });
    Sentences.held(4, "Returns true if the lock opens.", () -> {
      Check.same("it opens", Edges.shutWith(0, "000").tryLock(0), true);
      Check.same("two dials of three fit", Edges.shutWith(0, "001").tryLock(0), false);
      Check.same("no dial fits", Edges.shutWith(0, "111").tryLock(0), false);
      Check.same("it opens with 19 crumbs", Edges.shutWith(19, "333").tryLock(0), true);
      Check.same("it breaks with 20 crumbs", Edges.shutWith(19, "334").tryLock(0), false);
    });
    Sentences.held(4, NO_DOOR,
        () -> Edges.doors(Edges::shutHouse, (x, door) -> x.tryLock(door)));
    Sentences.held(4, "Throws `IllegalStateException` if the lock is open", () -> {
      Edges.refused("tryLock, opened", Edges.STATE, () -> Edges.openHouse(1), x -> x.tryLock(0));
      Edges.refused("tryLock, the last of six", Edges.STATE,
          () -> Edges.openHouse(6), x -> x.tryLock(5));
      Edges.refused("tryLock, broken", Edges.STATE, () -> Edges.crumbled(20), x -> x.tryLock(0));
      Edges.refused("tryLock, in the oven 0", Edges.STATE, Edges::fullOvens, x -> x.tryLock(0));
      Edges.refused("tryLock, in the oven 1", Edges.STATE, Edges::fullOvens, x -> x.tryLock(1));
      Check.taken("tryLock, 19 crumbs", () -> Edges.crumbled(19), x -> x.tryLock(0));
      Check.taken("tryLock beside full ovens", Edges::fullOvens, x -> x.tryLock(2));
    });
  }

  // ---- promise 5

  private static void holdShut() {
    Sentences.held(5, "Returns the number of locks that are shut after the call.", () -> {
      BiscuitLocks x = Edges.openHouse(6);
      for (int shut = 1; shut <= 6; shut++) {
        Check.same("shut", x.shut(6 - shut), shut);
      }
    });
    Sentences.held(5, NO_DOOR, () -> {
      Edges.doors(Edges::openHouse, (x, door) -> x.shut(door));
    });
    Sentences.held(5, "Throws `IllegalStateException` if the lock is shut or in an oven", () -> {
      Edges.refused("shut, new", Edges.STATE, () -> Edges.shutHouse(1), x -> x.shut(0));
      Edges.refused("shut, the last of six", Edges.STATE, () -> Edges.shutHouse(6), x -> x.shut(5));
      Edges.refused("shut, 19 crumbs", Edges.STATE, () -> Edges.crumbled(19), x -> x.shut(0));
      Edges.refused("shut, in the oven 0", Edges.STATE, Edges::fullOvens, x -> x.shut(0));
      Edges.refused("shut, in the oven 1", Edges.STATE, Edges::fullOvens, x -> x.shut(1));
      Edges.refused("shut, broken and in an oven", Edges.STATE,
          Check::brokenAndBaking, x -> x.shut(0));
      BiscuitLocks x = Edges.openHouse(1);
      x.shut(0);
      Check.thrown("shut, shut again", Edges.STATE, () -> x.shut(0));
    });
    Sentences.held(5, "Throws `UnsupportedOperationException` if the lock is broken", () -> {
      Edges.refused("shut, broken", Edges.UNSUPPORTED, () -> Edges.crumbled(20), x -> x.shut(0));
      Check.taken("shut, open with 19 crumbs", () -> Edges.openWith(19), x -> x.shut(0));
      Check.taken("shut, open with 0 crumbs", () -> Edges.openWith(0), x -> x.shut(0));
    });
  }

  // ---- promise 6

  private static void holdSetCombination() {
    Sentences.held(6, "Sets the combination of a lock that is open and not in an oven.", () -> {
      BiscuitLocks x = Edges.openHouse(6);
      x.setCombination(5, 9, 8, 7);
      Check.same("the last of six", Check.lockText(x, 5), "000/987c0o");
      Check.same("the one beside it", Check.lockText(x, 4), "000/000c0o");
      BiscuitLocks broken = Edges.crumbled(20);
      broken.setCombination(0, 0, 9, 0);
      Check.same("a broken lock", Check.lockText(broken, 0), "000/090c20o");
    });
    Sentences.held(6, "- `first`: the new position of the dial 0", () -> newPosition(0));
    Sentences.held(6, "- `second`: the new position of the dial 1", () -> newPosition(1));
    Sentences.held(6, "- `third`: the new position of the dial 2", () -> newPosition(2));
    Sentences.held(6, "Returns the number of dials whose position in the combination changes.",
        EdgesOfTurning::setCombinationReturns0To3);
    Sentences.held(6, NO_DOOR, () -> {
      Edges.doors(Edges::openHouse, (x, door) -> x.setCombination(door, 1, 2, 3));
      Edges.refused("setCombination, no such door, bad positions", Edges.INDEX,
          () -> Edges.openHouse(1), x -> x.setCombination(1, 10, -1, 10));
      Edges.refused("setCombination, no such door, bad positions", Edges.INDEX,
          () -> Edges.openHouse(1), x -> x.setCombination(-1, 10, -1, 10));
    });
    Sentences.held(6, "Throws `IllegalArgumentException` if a position is not between 0 and 9",
        EdgesOfTurning::setCombinationTakes0To9);
    Sentences.held(6, "Throws `IllegalStateException` if the lock is shut or in an oven", () -> {
      Edges.refused("setCombination, shut", Edges.STATE,
          () -> Edges.shutHouse(1), x -> x.setCombination(0, 1, 2, 3));
      Edges.refused("setCombination, shut, to the same", Edges.STATE,
          () -> Edges.shutHouse(1), x -> x.setCombination(0, 5, 5, 5));
      Edges.refused("setCombination, in the oven 0", Edges.STATE,
          Edges::fullOvens, x -> x.setCombination(0, 0, 0, 0));
      Edges.refused("setCombination, in the oven 1", Edges.STATE,
          Edges::fullOvens, x -> x.setCombination(1, 9, 9, 9));
      Check.taken("setCombination, open", () -> Edges.openWith(19),
          x -> x.setCombination(0, 9, 9, 9));
      Check.taken("setCombination, broken", () -> Edges.openWith(20),
          x -> x.setCombination(0, 0, 0, 0));
    });
  }

  private static void newPosition(int dial) {
    for (int position = 0; position <= 9; position++) {
      BiscuitLocks x = Edges.openHouse(1);
      x.setCombination(0, dial == 0 ? position : 4, dial == 1 ? position : 4,
          dial == 2 ? position : 4);
      for (int other = 0; other < 3; other++) {
        Check.same("combination(0, " + other + ")", x.combination(0, other),
            other == dial ? position : 4);
      }
    }
  }

  private static void setCombinationReturns0To3() {
    BiscuitLocks x = Edges.openHouse(1);
    Check.same("none changes", x.setCombination(0, 0, 0, 0), 0);
    Check.same("the first changes", x.setCombination(0, 9, 0, 0), 1);
    Check.same("the second changes", x.setCombination(0, 9, 9, 0), 1);
    Check.same("the third changes", x.setCombination(0, 9, 9, 9), 1);
    Check.same("none changes", x.setCombination(0, 9, 9, 9), 0);
    Check.same("two change", x.setCombination(0, 0, 9, 0), 2);
    Check.same("two change", x.setCombination(0, 1, 0, 0), 2);
    Check.same("two change", x.setCombination(0, 1, 9, 9), 2);
    Check.same("all change", x.setCombination(0, 0, 0, 0), 3);
    Check.same("all change", x.setCombination(0, 9, 9, 9), 3);
  }

  private static void setCombinationTakes0To9() {
    Edges.positions(() -> Edges.openHouse(1), (x, bad) -> x.setCombination(0, bad, 0, 0));
    Edges.positions(() -> Edges.openHouse(1), (x, bad) -> x.setCombination(0, 9, bad, 9));
    Edges.positions(() -> Edges.openHouse(6), (x, bad) -> x.setCombination(5, 5, 5, bad));
    for (int bad : new int[] {-1, 10}) {
      Edges.refused("setCombination, bad position, shut", Edges.ARGUMENT,
          () -> Edges.shutHouse(1), x -> x.setCombination(0, bad, 0, 0));
      Edges.refused("setCombination, bad position, in an oven", Edges.ARGUMENT,
          Edges::fullOvens, x -> x.setCombination(0, 0, 0, bad));
    }
  }

  // ---- promises 17 to 20

  private static void holdSteps() {
    Sentences.held(17, "Returns how many dials of a lock fit.", () -> {
      String[] combinations = {"111", "110", "901", "900", "090", "001", "000"};
      int[] due = {0, 1, 1, 2, 2, 2, 3};
      for (int place = 0; place < due.length; place++) {
        Check.same("fittingDials of " + combinations[place],
            Edges.shutWith(0, combinations[place]).fittingDials(0), due[place]);
        Check.same("fittingDials of " + combinations[place] + " with the play 1",
            Edges.shutWith(5, combinations[place]).fittingDials(0), 3);
      }
      Check.same("fittingDials, in an oven", Check.baking().fittingDials(0), 0);
    });
    Sentences.held(17, NO_DOOR,
        () -> Edges.doors(Edges::shutHouse, (x, door) -> x.fittingDials(door)));
    Sentences.held(18,
        "Returns the smallest number of steps by which the dials of a lock would have to be turned"
            + " altogether so that all of them fit, computed dial by dial from distances.",
        () -> steps(true));
    Sentences.held(18, NO_DOOR,
        () -> Edges.doors(Edges::shutHouse, (x, door) -> x.stepsToOpen(door)));
    Sentences.held(19,
        "Returns the same number as stepsToOpen, found by turning each dial on a copy of the lock"
            + " in both directions until it fits.",
        () -> {
          steps(false);
          Check.changesNothing("stepsToOpenByTurning", Edges.lived(() -> Edges.shutHouse(6)),
              x -> x.stepsToOpenByTurning(5));
        });
    Sentences.held(19, NO_DOOR,
        () -> Edges.doors(Edges::shutHouse, (x, door) -> x.stepsToOpenByTurning(door)));
    Sentences.held(20,
        "Returns how many of the 1000 settings of the dials would open a lock with its present"
            + " play.",
        EdgesOfTurning::openingSettingsOfEachPlay);
    Sentences.held(20, NO_DOOR,
        () -> Edges.doors(Edges::shutHouse, (x, door) -> x.openingSettings(door)));
  }

  /** The crumbs, the combination of a lock at 000, and the steps: from the least to the most. */
  private static void steps(boolean byDistances) {
    int[] crumbs = {0, 0, 0, 0, 0, 0, 4, 5, 9, 10, 15, 19, 20, 20, 20};
    String[] combinations = {
      "000", "100", "009", "060", "456", "555", "111", "111", "922", "922", "555", "374",
      "555", "544", "466"};
    int[] due = {0, 1, 1, 4, 13, 15, 3, 0, 2, 0, 6, 1, 3, 1, 0};
    for (int place = 0; place < due.length; place++) {
      BiscuitLocks x = Edges.openWith(crumbs[place]);
      String combination = combinations[place];
      x.setCombination(0, combination.charAt(0) - '0', combination.charAt(1) - '0',
          combination.charAt(2) - '0');
      int steps = byDistances ? x.stepsToOpen(0) : x.stepsToOpenByTurning(0);
      Check.same("the steps to " + combination + " with " + crumbs[place] + " crumbs", steps,
          due[place]);
    }
  }

  private static void openingSettingsOfEachPlay() {
    int[] crumbs = {0, 4, 5, 9, 10, 14, 15, 19, 20};
    int[] due = {1, 1, 27, 27, 125, 125, 343, 343, 729};
    for (int place = 0; place < due.length; place++) {
      Check.same("openingSettings with " + crumbs[place] + " crumbs",
          Edges.crumbled(crumbs[place]).openingSettings(0), due[place]);
    }
    Check.same("openingSettings where positions wrap round",
        Edges.shutWith(19, "909").openingSettings(0), 343);
    Check.same("openingSettings, in an oven", Check.brokenAndBaking().openingSettings(0), 729);
  }

  // ---- promise 21

  private static void holdTriesUntilBroken() {
    Sentences.held(21,
        "Predicts after how many tries a lock is broken, if its dials stay as they are and every"
            + " try has the effect of a try of a lock that is shut.",
        EdgesOfTurning::triesUntilBrokenComesTrue);
    Sentences.held(21, "Its play grows with its crumbs.", () -> {
      // 0, 3, 6: the dial 0 fits; 8, 10, 12, 14, 16: the dial 1 fits; 17, 18, 19, 20.
      Check.same("at the distances 1, 3 and 5", tries(0, "135"), 11);
      Check.same("at the distances 1, 3 and 5 from 14", tries(14, "135"), 5);
      Check.same("at the distances 1, 3 and 5 from 15", tries(15, "135"), 5);
      // The play 4 comes with the 20 crumbs, too late to open the lock.
      Check.same("at the distance 4", tries(0, "444"), 7);
      Check.same("at the distance 4, one dial", tries(0, "600"), 20);
    });
    Sentences.held(21,
        "Returns the number of tries after which it is broken, 0 if it is broken now.", () -> {
          Check.same("broken", Edges.crumbled(20).triesUntilBroken(0), 0);
          Check.same("broken, all dials fit", Edges.openWith(20).triesUntilBroken(0), 0);
          Check.same("broken, in an oven", Check.brokenAndBaking().triesUntilBroken(0), 0);
          Check.same("19 crumbs", Edges.crumbled(19).triesUntilBroken(0), 1);
          Check.same("18 crumbs", Edges.crumbled(18).triesUntilBroken(0), 2);
          Check.same("0 crumbs, one dial", Edges.crumbled(0).triesUntilBroken(0), 20);
          Check.same("17 crumbs, three dials", tries(17, "555"), 1);
          Check.same("16 crumbs, three dials", tries(16, "555"), 2);
          Check.same("open, 19 crumbs", openTries(19, 5), 1);
          Check.same("open, 0 crumbs", openTries(0, 5), 20);
        });
    Sentences.held(21, NO_DOOR,
        () -> Edges.doors(Edges::shutHouse, (x, door) -> x.triesUntilBroken(door)));
    Sentences.held(21,
        "Throws `NoSuchElementException` if a try would open the lock before it is broken",
        EdgesOfTurning::opensBeforeItIsBroken);
  }

  private static int tries(int crumbs, String combination) {
    return Edges.shutWith(crumbs, combination).triesUntilBroken(0);
  }

  private static int openTries(int crumbs, int first) {
    BiscuitLocks x = Edges.openWith(crumbs);
    x.setCombination(0, first, 0, 0);
    return x.triesUntilBroken(0);
  }

  private static void triesUntilBrokenComesTrue() {
    for (String combination : new String[] {"500", "055", "555", "145", "254", "634", "478"}) {
      BiscuitLocks x = Check.doors(combination);
      int due = x.triesUntilBroken(0);
      for (int left = due; left > 0; left--) {
        Check.same("triesUntilBroken of " + combination, x.triesUntilBroken(0), left);
        Check.same("isBroken before the last try", x.isBroken(0), false);
        x.tryLock(0);
      }
      Check.same("isBroken after " + due + " tries", x.isBroken(0), true);
    }
    BiscuitLocks x = Check.doors("555");
    Check.tryTimes(x, 0, 3);
    x.bake(0, 0);
    Check.same("in an oven, 9 crumbs", x.triesUntilBroken(0), 4);
  }

  private static void opensBeforeItIsBroken() {
    String[] combinations = {"000", "100", "009", "200", "300", "070", "333"};
    for (String combination : combinations) {
      Edges.refused("triesUntilBroken of " + combination, Edges.ELEMENT,
          () -> Check.doors(combination), x -> x.triesUntilBroken(0));
    }
    Edges.refused("triesUntilBroken, open and fitting", Edges.ELEMENT,
        () -> Edges.openWith(19), x -> x.triesUntilBroken(0));
    Edges.refused("triesUntilBroken, in an oven and fitting", Edges.ELEMENT, () -> {
      BiscuitLocks x = Edges.openWith(19);
      x.bake(0, 0);
      return x;
    }, x -> x.triesUntilBroken(0));
    Edges.refused("triesUntilBroken, it fits with the crumb 15", Edges.ELEMENT,
        () -> Edges.shutWith(14, "300"), x -> x.triesUntilBroken(0));
    Check.same("it would fit with the crumb 20", tries(19, "400"), 1);
  }
}
