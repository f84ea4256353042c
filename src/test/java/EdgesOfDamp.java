/** Boundaries in "Damp", and in the promises 7, 9, 22, 23, 33 and 34. */
final class EdgesOfDamp {

  private static final String NO_DOOR =
      "Throws `IndexOutOfBoundsException` if there is no such door";

  private EdgesOfDamp() {
  }

  static void hold() {
    holdTerms();
    holdSetDampAndPassHours();
    holdDialAfter();
    holdHoursUntilFitting();
    holdAnswers();
  }

  private static void holdTerms() {
    Sentences.held("Damp", "The damp is a number from 0 to 9, initially 0.", () -> {
      BiscuitLocks x = new BiscuitLocks();
      Check.same("damp at first", x.damp(), 0);
      for (int damp = 0; damp <= 9; damp++) {
        x.setDamp(damp);
        Check.same("damp", x.damp(), damp);
      }
      Check.thrown("the damp 10", Edges.ARGUMENT, () -> x.setDamp(10));
      Check.thrown("the damp -1", Edges.ARGUMENT, () -> x.setDamp(-1));
    });
    Sentences.held("Damp",
        "When an hour passes, the hour counter, which starts at 0, increases by 1, and each lock"
            + " that is shut drifts if the hour counter is a multiple of 10 minus the damp: its"
            + " dial with the index hour counter modulo 3 moves 1 step upwards.",
        () -> {
          hourCounter();
          driftsAtMultiples();
          driftsByTheHourCounter();
          dialsWrapRound();
          onlyShutLocksDrift();
        });
    Sentences.held("Damp",
        "With the damp 0, this happens in every tenth hour, and with the damp 9 in every hour.",
        EdgesOfDamp::tenthHourAndEveryHour);
    Sentences.held("Damp", "Then each oven that bakes goes on for one hour.",
        EdgesOfDamp::ovensComeAfterDrift);
  }

  private static void hourCounter() {
    BiscuitLocks x = new BiscuitLocks();
    Check.same("hour at first", x.hour(), 0);
    x.passHours(1);
    Check.same("hour", x.hour(), 1);
    x.passHours(60);
    Check.same("hour", x.hour(), 61);
  }

  private static void driftsAtMultiples() {
    for (int damp = 0; damp <= 9; damp++) {
      int every = 10 - damp;
      BiscuitLocks x = Check.doors("555");
      x.setDamp(damp);
      if (every > 1) {
        x.passHours(every - 1);
        Check.same("damp " + damp + ", an hour before the first drift", sumOfDials(x), 0);
      }
      x.passHours(1);
      Check.same("damp " + damp + ", the first drift", sumOfDials(x), 1);
      Check.same("damp " + damp + ", the dial that drifts", x.dial(0, every % 3), 1);
      if (every > 1) {
        x.passHours(every - 1);
        Check.same("damp " + damp + ", an hour before the second drift", sumOfDials(x), 1);
      }
      x.passHours(1);
      Check.same("damp " + damp + ", the second drift", sumOfDials(x), 2);
    }
  }

  private static int sumOfDials(BiscuitLocks x) {
    return x.dial(0, 0) + x.dial(0, 1) + x.dial(0, 2);
  }

  /** The multiples are those of the hour counter, whenever the damp was set or the door added. */
  private static void driftsByTheHourCounter() {
    BiscuitLocks x = new BiscuitLocks();
    x.passHours(9);
    x.addDoor(5, 5, 5);
    x.passHours(1);
    Check.same("added at 9, drifts at 10", Check.lockText(x, 0), "010/555c0s");
    x.setDamp(7);
    x.passHours(1);
    Check.same("no drift at 11", Check.lockText(x, 0), "010/555c0s");
    x.passHours(1);
    Check.same("damp 7 set at 10, drifts at 12", Check.lockText(x, 0), "110/555c0s");
    x.setDamp(0);
    x.passHours(7);
    Check.same("no drift at 19", Check.lockText(x, 0), "110/555c0s");
    x.passHours(1);
    Check.same("damp 0 again, drifts at 20", Check.lockText(x, 0), "111/555c0s");
  }

  private static void dialsWrapRound() {
    BiscuitLocks x = Edges.shutHouse(6);
    x.setDamp(9);
    for (int door = 0; door < 6; door++) {
      Check.turnTo(x, door, 9, 9, 9);
    }
    x.passHours(1);
    Check.same("the dial 1 of the lock 0 in the hour 1", Check.lockText(x, 0), "909/555c0s");
    Check.same("the dial 1 of the lock 5 in the hour 1", Check.lockText(x, 5), "909/555c0s");
    x.passHours(1);
    Check.same("the dial 2 in the hour 2", Check.lockText(x, 0), "900/555c0s");
    x.passHours(1);
    Check.same("the dial 0 in the hour 3", Check.lockText(x, 0), "000/555c0s");
    x.passHours(30);
    Check.same("each dial went round", Check.lockText(x, 5), "000/555c0s");
  }

  private static void onlyShutLocksDrift() {
    BiscuitLocks x = Check.doors("555", "000", "555", "555");
    Check.tryTimes(x, 0, 7);
    x.tryLock(1);
    Check.tryTimes(x, 2, 1);
    x.bake(3, 0);
    x.setDamp(9);
    x.passHours(1);
    Check.same("a broken lock", Check.lockText(x, 0), "000/555c20o");
    Check.same("an open lock", Check.lockText(x, 1), "000/000c0o");
    Check.same("a shut lock", Check.lockText(x, 2), "010/555c3s");
    Check.same("a lock that was in an oven", Check.lockText(x, 3), "000/555c0s");
    x.shut(1);
    x.passHours(1);
    Check.same("the lock that was shut", Check.lockText(x, 1), "001/000c0s");
  }

  private static void tenthHourAndEveryHour() {
    BiscuitLocks dry = Check.doors("555");
    BiscuitLocks wet = Check.doors("555");
    wet.setDamp(9);
    for (int hour = 1; hour <= 30; hour++) {
      dry.passHours(1);
      Check.same("with the damp 0 until the hour " + hour, sumOfDials(dry), hour / 10);
      wet.passHours(1);
      Check.same("with the damp 9 until the hour " + hour,
          sumOfDials(wet) + 10 * wrapsUntil(hour), hour);
      Check.same("the dial of the hour " + hour, wet.dial(0, hour % 3), (hour + 2) / 3 % 10);
    }
    Check.same("in the hours 10, 20 and 30", Check.lockText(dry, 0), "111/555c0s");
  }

  /** How many dials have come back to 0 until this hour, if one drifts in each: 28, 29 and 30. */
  private static int wrapsUntil(int hour) {
    return Math.max(0, hour - 27);
  }

  private static void ovensComeAfterDrift() {
    BiscuitLocks x = Edges.fullOvens();
    x.setDamp(9);
    x.passHours(1);
    Check.same("baked in the hour 1, no drift in it", Check.lockText(x, 0), "000/555c0s");
    Check.same("so too in the oven 1", Check.lockText(x, 1), "000/395c0s");
    Check.same("the lock beside them", Check.lockText(x, 2), "010/001c0s");
    x.passHours(1);
    Check.same("it drifts in the hour 2", Check.lockText(x, 0), "001/555c0s");
    Check.same("so too from the oven 1", Check.lockText(x, 1), "001/395c0s");
    BiscuitLocks longer = Check.brokenAndBaking();
    longer.bake(1, 0);
    for (int left = 6; left >= 1; left--) {
      Check.same("bakingHours", longer.bakingHours(1), left);
      Check.same("bakingHours of the other", longer.bakingHours(0), left == 6 ? 1 : 0);
      longer.passHours(1);
    }
    Check.same("bakingHours, baked", longer.bakingHours(1), 0);
  }

  // ---- promises 7 and 9

  private static void holdSetDampAndPassHours() {
    Sentences.held(7, "Returns the previous damp.", () -> {
      BiscuitLocks x = new BiscuitLocks();
      Check.same("setDamp at first", x.setDamp(9), 0);
      Check.same("setDamp", x.setDamp(9), 9);
      Check.same("setDamp", x.setDamp(0), 9);
      Check.same("setDamp", x.setDamp(0), 0);
    });
    Sentences.held(7, "Throws `IllegalArgumentException` if damp is not between 0 and 9", () -> {
      Edges.range("setDamp", Edges.ARGUMENT, 0, 9,
          Edges.lived(BiscuitLocks::new), (x, damp) -> x.setDamp(damp));
      Edges.range("setDamp", Edges.ARGUMENT, 0, 9,
          Edges.lived(Edges::fullOvens), (x, damp) -> x.setDamp(damp));
    });
    Sentences.held(9, "Returns the number of bakings that are finished in these hours.",
        EdgesOfDamp::passHoursReturns0To2);
    Sentences.held(9, "Throws `IllegalArgumentException` if hours is not between 1 and 60", () -> {
      Edges.range("passHours", Edges.ARGUMENT, 1, 60,
          Edges.lived(BiscuitLocks::new), (x, hours) -> x.passHours(hours));
      Edges.range("passHours", Edges.ARGUMENT, 1, 60,
          Edges.lived(Edges::fullOvens), (x, hours) -> x.passHours(hours));
      BiscuitLocks x = new BiscuitLocks();
      x.passHours(1);
      Check.same("the least number of hours", x.hour(), 1);
      x.passHours(60);
      Check.same("the largest number of hours", x.hour(), 61);
    });
  }

  private static void passHoursReturns0To2() {
    Check.same("no lock in an oven", Edges.shutHouse(6).passHours(60), 0);
    Check.same("both baked in the same hour", Edges.fullOvens().passHours(1), 2);
    Check.same("both baked, and many hours more", Edges.fullOvens().passHours(60), 2);
    BiscuitLocks x = Check.brokenAndBaking();
    x.bake(1, 0);
    Check.same("one baked", x.passHours(1), 1);
    Check.same("the other until an hour before its end", x.passHours(4), 0);
    Check.same("the other", x.passHours(1), 1);
    Check.same("none is left", x.passHours(60), 0);
    Check.same("an hour too few", Check.brokenAndBaking().passHours(5), 0);
    Check.same("just enough", Check.brokenAndBaking().passHours(6), 1);
    BiscuitLocks y = Check.brokenAndBaking();
    y.bake(1, 0);
    Check.same("two that end in different hours", y.passHours(6), 2);
  }

  // ---- promise 22

  private static void holdDialAfter() {
    Sentences.held(22, "Predicts the position of a dial after some hours.", () -> {
      BiscuitLocks wet = wet("555");
      Check.turnTo(wet, 0, 9, 9, 0);
      Check.same("the dial 1 goes round in the hour 1", wet.dialAfter(0, 1, 1), 0);
      Check.same("the dial 0 in the hour 3", wet.dialAfter(0, 0, 3), 0);
      Check.same("the dial 0 not in the hour 2", wet.dialAfter(0, 0, 2), 9);
      Check.same("the dial 2 in the hour 29", wet.dialAfter(0, 2, 29), 0);
      Check.same("the dial 2 in 60 hours", wet.dialAfter(0, 2, 60), 0);
      BiscuitLocks baking = Edges.fullOvens();
      baking.setDamp(9);
      Check.same("baked in the hour 1, no drift in it", baking.dialAfter(0, 1, 1), 0);
      Check.same("it drifts in the hour 2", baking.dialAfter(0, 2, 2), 1);
      dialAfterEachHour(Edges.shutHouse(1), 0);
      dialAfterEachHour(Edges.openHouse(1), 0);
      dialAfterEachHour(Edges.shutHouse(6), 5);
      dialAfterEachHour(Check.brokenAndBaking(), 0);
      dialAfterEachHour(Edges.fullOvens(), 1);
    });
    Sentences.held(22, NO_DOOR + ", or no such dial", () -> {
      Edges.doors(Edges::shutHouse, (x, door) -> x.dialAfter(door, 2, 0));
      Edges.doors(Edges::openHouse, (x, door) -> x.dialAfter(door, 0, 60));
      Edges.dials(Edges::fullOvens, (x, dial) -> x.dialAfter(0, dial, 1));
      for (int bad : new int[] {-1, 3}) {
        Edges.refused("dialAfter, no such dial, -1 hours", Edges.INDEX,
            Edges::fullOvens, x -> x.dialAfter(0, bad, -1));
        Edges.refused("dialAfter, no such door, 61 hours", Edges.INDEX,
            Edges::fullOvens, x -> x.dialAfter(bad, 0, 61));
      }
    });
    Sentences.held(22, "Throws `IllegalArgumentException` if hours is not between 0 and 60", () -> {
      Edges.range("dialAfter, hours", Edges.ARGUMENT, 0, 60,
          Edges.lived(() -> Edges.shutHouse(1)), (x, hours) -> x.dialAfter(0, 0, hours));
      Edges.range("dialAfter in an oven, hours", Edges.ARGUMENT, 0, 60,
          Edges.lived(Edges::fullOvens), (x, hours) -> x.dialAfter(1, 2, hours));
    });
  }

  /** With dials that go round: each prediction from 0 to 60 hours comes true. */
  private static void dialAfterEachHour(BiscuitLocks x, int door) {
    x.setDamp(9);
    if (!x.isBaking(door)) {
      Check.turnTo(x, door, 9, 8, 7);
    }
    int[] predicted = new int[3 * 61];
    for (int place = 0; place < predicted.length; place++) {
      predicted[place] = x.dialAfter(door, place % 3, place / 3);
    }
    for (int place = 0; place < predicted.length; place++) {
      if (place > 0 && place % 3 == 0) {
        x.passHours(1);
      }
      Check.same("dialAfter of the dial " + place % 3 + " and " + place / 3 + " hours",
          predicted[place], x.dial(door, place % 3));
    }
  }

  // ---- promise 23

  private static void holdHoursUntilFitting() {
    Sentences.held(23,
        "Predicts after how many hours all dials of a lock fit for the first time, whether it is"
            + " open or shut.",
        EdgesOfDamp::hoursUntilFittingComesTrue);
    Sentences.held(23, "Returns the number of hours, 0 if all dials fit now.", () -> {
      Check.same("shut, fits now", Edges.shutWith(0, "000").hoursUntilFitting(0), 0);
      Check.same("open, fits now", Edges.openWith(0).hoursUntilFitting(0), 0);
      Check.same("broken, fits by the play 4", brokenFitting().hoursUntilFitting(0), 0);
      BiscuitLocks baking = brokenFitting();
      baking.bake(0, 0);
      Check.same("in an oven, fits now", baking.hoursUntilFitting(0), 0);
      BiscuitLocks soon = wet("090");
      Check.turnTo(soon, 0, 0, 8, 0);
      Check.same("it fits in the next hour", soon.hoursUntilFitting(0), 1);
    });
    Sentences.held(23, NO_DOOR, () -> {
      Edges.doors(Edges::openHouse, (x, door) -> x.hoursUntilFitting(door));
      Edges.doors(EdgesOfDamp::fittingHouse, (x, door) -> x.hoursUntilFitting(door));
    });
    Sentences.held(23, "Throws `NoSuchElementException` if this does not happen within 60 hours",
        EdgesOfDamp::fitsWithin60Hours);
  }

  private static BiscuitLocks fittingHouse(int doors) {
    BiscuitLocks x = new BiscuitLocks();
    for (int door = 0; door < doors; door++) {
      x.addDoor(0, 0, 0);
    }
    return x;
  }

  private static BiscuitLocks brokenFitting() {
    BiscuitLocks x = Edges.crumbled(20);
    x.setCombination(0, 4, 6, 4);
    return x;
  }

  private static BiscuitLocks wet(String combination) {
    BiscuitLocks x = Check.doors(combination);
    x.setDamp(9);
    return x;
  }

  private static void hoursUntilFittingComesTrue() {
    for (int damp : new int[] {0, 5, 8, 9}) {
      BiscuitLocks x = Check.doors("111");
      x.setDamp(damp);
      for (int left = x.hoursUntilFitting(0); left > 0; left--) {
        Check.same("hoursUntilFitting", x.hoursUntilFitting(0), left);
        Check.same("fittingDials before", x.fittingDials(0) < 3, true);
        x.passHours(1);
      }
      Check.same("fittingDials in the end", x.fittingDials(0), 3);
    }
    Check.same("for the first time, not for the second", wet("222").hoursUntilFitting(0), 6);
    BiscuitLocks round = wet("111");
    Check.turnTo(round, 0, 2, 2, 2);
    Check.same("the dials go round", round.hoursUntilFitting(0), 27);
    BiscuitLocks baking = Edges.crumbled(20);
    baking.bake(0, 0);
    baking.setDamp(9);
    // From the hour 7 on, its dials drift as much as one another, and never come to 500.
    Check.thrown("in an oven, never", Edges.ELEMENT, () -> baking.hoursUntilFitting(0));
    BiscuitLocks open = Edges.openWith(0);
    open.setCombination(0, 1, 0, 0);
    open.setDamp(9);
    Check.thrown("an open lock never drifts", Edges.ELEMENT, () -> open.hoursUntilFitting(0));
    open.shut(0);
    open.turn(0, 1, -1);
    open.turn(0, 2, -1);
    Check.same("a shut one does", open.hoursUntilFitting(0), 3);
    BiscuitLocks fitsWhenBaked = Edges.crumbled(19);
    fitsWhenBaked.turn(0, 0, 5);
    fitsWhenBaked.tryLock(0);
    fitsWhenBaked.setCombination(0, 0, 0, 0);
    fitsWhenBaked.bake(0, 1);
    Check.same("it fits when it is baked", fitsWhenBaked.hoursUntilFitting(0), 5);
  }

  private static void fitsWithin60Hours() {
    BiscuitLocks x = Check.doors("222");
    Check.same("in 60 hours", x.hoursUntilFitting(0), 60);
    Check.refused("hoursUntilFitting, in 61 hours", Edges.ELEMENT, () -> {
      BiscuitLocks early = Check.doors("333");
      early.passHours(29);
      return early;
    }, y -> y.hoursUntilFitting(0));
    BiscuitLocks late = Check.doors("333");
    late.passHours(29);
    Check.thrown("in 61 hours", Edges.ELEMENT, () -> late.hoursUntilFitting(0));
    late.passHours(1);
    Check.same("in 60 hours", late.hoursUntilFitting(0), 60);
    late.passHours(1);
    Check.same("in 59 hours", late.hoursUntilFitting(0), 59);
    Edges.refused("hoursUntilFitting, open", Edges.ELEMENT, () -> {
      BiscuitLocks open = Edges.openWith(0);
      open.setCombination(0, 0, 0, 1);
      return open;
    }, y -> y.hoursUntilFitting(0));
    Edges.refused("hoursUntilFitting, broken", Edges.ELEMENT,
        () -> Edges.crumbled(20), y -> y.hoursUntilFitting(0));
  }

  // ---- promises 33 and 34

  private static void holdAnswers() {
    Sentences.held(33, "Returns the damp.", () -> {
      BiscuitLocks x = new BiscuitLocks();
      Check.same("damp, the least, at first", x.damp(), 0);
      x.setDamp(9);
      Check.same("damp, the largest", x.damp(), 9);
      x.setDamp(0);
      Check.same("damp, the least", x.damp(), 0);
      Check.thrown("setDamp", Edges.ARGUMENT, () -> x.setDamp(10));
      Check.same("damp after a refused one", x.damp(), 0);
    });
    Sentences.held(34, "Returns the hour counter.", () -> {
      BiscuitLocks x = new BiscuitLocks();
      Check.same("hour at first", x.hour(), 0);
    });
    Sentences.held(34, "Returns the number of hours that have passed.", () -> {
      BiscuitLocks x = new BiscuitLocks();
      for (int calls = 1; calls <= 250; calls++) {
        x.passHours(60);
        Check.same("hour", x.hour(), 60 * calls);
      }
      x.passHours(1);
      Check.same("hour", x.hour(), 15001);
      x.undo();
      Check.same("hour that is undone", x.hour(), 15000);
    });
  }
}
