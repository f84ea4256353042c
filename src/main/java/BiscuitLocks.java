import java.util.NoSuchElementException;

/**
 * A simulation of locks that are baked of biscuit.
 *
 * <p>The promises that this class keeps are those of the document ../shared/DOC.md.
 */
public final class BiscuitLocks {

  private static final int MOST_DOORS = 6;
  private static final int DIALS = 3;
  private static final int POSITIONS = 10;
  private static final int MOST_CRUMBS = 20;
  private static final int CRUMBS_PER_PLAY = 5;
  private static final int CRUMBS_PER_BAKING_HOUR = 4;
  private static final int MOST_STEPS = 9;
  private static final int MOST_DAMP = 9;
  /** With the damp 0; each damp more makes it one hour less. */
  private static final int HOURS_FROM_DRIFT_TO_DRIFT = 10;
  private static final int MOST_HOURS = 60;
  private static final int OVENS = 2;
  private static final int MOST_TRIES_REMEMBERED = 10;
  private static final int MOST_CHANGES_KEPT = 8;
  private static final int MOST_CHARACTERS = 60;
  private static final int LOWEST_CHARACTER = 32;
  private static final int HIGHEST_CHARACTER = 126;
  private static final int MOST_NUMBERS = 4;
  private static final int DECIMAL_BASE = 10;
  /** Stands where there is no index: no door in an oven, no error position, no failed command. */
  private static final int NONE = -1;

  private static final Command[] COMMANDS = Command.values();

  private final House house = new House();
  /** For predictions, and for the state to which a script that fails goes back. */
  private final House spare = new House();
  private final House snapshot = new House();
  private final History history = new History();
  private final Script script = new Script();
  private final StringBuilder output = new StringBuilder();
  private boolean saved = false;
  private int errorPlace = NONE;
  private int failedPlace = NONE;

  public BiscuitLocks() {
  }

  // ---- changes

  public int addDoor(int first, int second, int third)
      throws IllegalArgumentException, IllegalStateException {
    return change(Command.DOOR, first, second, third, 0);
  }

  public int turn(int door, int dial, int steps)
      throws IndexOutOfBoundsException, IllegalArgumentException, IllegalStateException {
    return change(Command.TURN, door, dial, steps, 0);
  }

  public boolean tryLock(int door) throws IndexOutOfBoundsException, IllegalStateException {
    return change(Command.TRY, door, 0, 0, 0) == 1;
  }

  public int shut(int door)
      throws IndexOutOfBoundsException, IllegalStateException, UnsupportedOperationException {
    return change(Command.SHUT, door, 0, 0, 0);
  }

  public int setCombination(int door, int first, int second, int third)
      throws IndexOutOfBoundsException, IllegalArgumentException, IllegalStateException {
    return change(Command.SET, door, first, second, third);
  }

  public int setDamp(int damp) throws IllegalArgumentException {
    return change(Command.DAMP, damp, 0, 0, 0);
  }

  public int bake(int door, int oven)
      throws IndexOutOfBoundsException, IllegalStateException, UnsupportedOperationException {
    return change(Command.BAKE, door, oven, 0, 0);
  }

  public int passHours(int hours) throws IllegalArgumentException {
    return change(Command.HOURS, hours, 0, 0, 0);
  }

  private int change(Command command, int first, int second, int third, int fourth) {
    throwFor(house.refusalOf(command, first, second, third, fourth));
    history.push(house);
    return house.carryOut(command, first, second, third, fourth);
  }

  private static void throwFor(Refusal refusal) {
    switch (refusal) {
      case NO_SUCH_INDEX:
        throw new IndexOutOfBoundsException("no such door, dial or oven");
      case BAD_ARGUMENT:
        throw new IllegalArgumentException("a number is out of its range");
      case WRONG_STATE:
        throw new IllegalStateException("the state does not allow this");
      case NOT_SUPPORTED:
        throw new UnsupportedOperationException("the lock is broken, or the oven is in use");
      default:
        break;
    }
  }

  // ---- doors and locks

  public int doorCount() {
    return house.doors;
  }

  public int dial(int door, int dial) throws IndexOutOfBoundsException {
    Lock lock = lockOf(door);
    requireDial(dial);
    return lock.dials[dial];
  }

  public int combination(int door, int dial) throws IndexOutOfBoundsException {
    Lock lock = lockOf(door);
    requireDial(dial);
    return lock.combination[dial];
  }

  public boolean isOpen(int door) throws IndexOutOfBoundsException {
    return lockOf(door).open;
  }

  public boolean isBroken(int door) throws IndexOutOfBoundsException {
    return lockOf(door).hasMostCrumbs();
  }

  public int crumbs(int door) throws IndexOutOfBoundsException {
    return lockOf(door).crumbs;
  }

  public int play(int door) throws IndexOutOfBoundsException {
    return lockOf(door).playNow();
  }

  public int fittingDials(int door) throws IndexOutOfBoundsException {
    return lockOf(door).countFitting();
  }

  public int stepsToOpen(int door) throws IndexOutOfBoundsException {
    return lockOf(door).stepsByDistances();
  }

  public int stepsToOpenByTurning(int door) throws IndexOutOfBoundsException {
    return lockOf(door).stepsByTurning(spare.locks[0]);
  }

  public int openingSettings(int door) throws IndexOutOfBoundsException {
    int positionsThatFit = 2 * lockOf(door).playNow() + 1;
    return positionsThatFit * positionsThatFit * positionsThatFit;
  }

  private Lock lockOf(int door) {
    if (!house.hasDoor(door)) {
      throw new IndexOutOfBoundsException("no such door");
    }
    return house.locks[door];
  }

  private static void requireDial(int dial) {
    if (!isDial(dial)) {
      throw new IndexOutOfBoundsException("no such dial");
    }
  }

  // ---- predictions

  public int triesUntilBroken(int door) throws IndexOutOfBoundsException, NoSuchElementException {
    Lock lock = lockOf(door);
    Lock copy = spare.locks[0];
    copy.copyFrom(lock);
    // Every round adds at least one crumb or ends.
    for (int tries = 0; tries <= MOST_CRUMBS; tries++) {
      if (copy.hasMostCrumbs()) {
        return tries;
      }
      if (copy.takeTry()) {
        break;
      }
    }
    throw new NoSuchElementException("the lock opens before it is broken");
  }

  public int dialAfter(int door, int dial, int hours)
      throws IndexOutOfBoundsException, IllegalArgumentException {
    lockOf(door);
    requireDial(dial);
    if (hours < 0 || hours > MOST_HOURS) {
      throw new IllegalArgumentException("hours are not between 0 and 60");
    }
    spare.copyFrom(house);
    spare.letHoursPass(hours);
    return spare.locks[door].dials[dial];
  }

  public int hoursUntilFitting(int door) throws IndexOutOfBoundsException, NoSuchElementException {
    lockOf(door);
    spare.copyFrom(house);
    Lock lock = spare.locks[door];
    for (int hours = 0; hours <= MOST_HOURS; hours++) {
      if (lock.countFitting() == DIALS) {
        return hours;
      }
      spare.letHourPass();
    }
    throw new NoSuchElementException("the dials do not all fit within 60 hours");
  }

  // ---- ovens

  public int bakedDoor(int oven) throws IndexOutOfBoundsException, NoSuchElementException {
    requireOven(oven);
    int door = house.ovenDoors[oven];
    if (door == NONE) {
      throw new NoSuchElementException("the oven bakes no lock");
    }
    return door;
  }

  public int bakingHours(int oven) throws IndexOutOfBoundsException {
    requireOven(oven);
    return house.ovenHours[oven];
  }

  public boolean isBaking(int door) throws IndexOutOfBoundsException {
    lockOf(door);
    return house.isInOven(door);
  }

  private static void requireOven(int oven) {
    if (!isOven(oven)) {
      throw new IndexOutOfBoundsException("no such oven");
    }
  }

  // ---- ranking and record

  public int doorByCrumbs(int rank) throws NoSuchElementException {
    for (int door = 0; door < house.doors; door++) {
      if (house.rankByCrumbs(door) == rank) {
        return door;
      }
    }
    throw new NoSuchElementException("no such rank");
  }

  public int rememberedTries() {
    return house.countRemembered();
  }

  public int triedDoor(int recency) throws NoSuchElementException {
    requireRemembered(recency);
    return house.triedDoors[recency];
  }

  public boolean didOpen(int recency) throws NoSuchElementException {
    requireRemembered(recency);
    return house.triesOpened[recency];
  }

  private void requireRemembered(int recency) {
    if (recency < 0 || recency >= house.countRemembered()) {
      throw new NoSuchElementException("no such try is remembered");
    }
  }

  // ---- counts and totals

  public int shutLocks() {
    return house.countShut();
  }

  public int shutLocksByAccounts() {
    return house.countShutByAccounts();
  }

  public int damp() {
    return house.damp;
  }

  public int hour() {
    return house.hour;
  }

  public int tryTotal() {
    return house.tries;
  }

  public int openedTotal() {
    return house.opened;
  }

  public int bakedTotal() {
    return house.baked;
  }

  public double meanCrumbs() throws ArithmeticException {
    if (house.doors == 0) {
      throw new ArithmeticException("there are no doors");
    }
    int sum = 0;
    for (int door = 0; door < house.doors; door++) {
      sum += house.locks[door].crumbs;
    }
    return (double) sum / (double) house.doors;
  }

  public float openedShare() throws ArithmeticException {
    if (house.tries == 0) {
      throw new ArithmeticException("there was no try");
    }
    return (float) house.opened / (float) house.tries;
  }

  public boolean isConsistent() {
    for (int door = 0; door < house.doors; door++) {
      Lock lock = house.locks[door];
      if (lock.stepsByDistances() != lock.stepsByTurning(spare.locks[0])) {
        return false;
      }
      if (lock.hasMostCrumbs() && !lock.open) {
        return false;
      }
    }
    return house.countShut() == house.countShutByAccounts();
  }

  // ---- output text

  public int renderLock(int door) throws IndexOutOfBoundsException {
    Lock lock = lockOf(door);
    output.setLength(0);
    appendPositions(lock.dials);
    output.append('/');
    appendPositions(lock.combination);
    output.append('c').append(lock.crumbs);
    if (house.isInOven(door)) {
      output.append('b');
    } else {
      output.append(lock.open ? 'o' : 's');
    }
    return output.length();
  }

  private void appendPositions(int[] positions) {
    for (int dial = 0; dial < DIALS; dial++) {
      output.append(positions[dial]);
    }
  }

  public int renderOvens() {
    output.setLength(0);
    for (int oven = 0; oven < OVENS; oven++) {
      if (oven > 0) {
        output.append(' ');
      }
      output.append(oven).append(':');
      if (house.ovenDoors[oven] == NONE) {
        output.append('-');
      } else {
        output.append(house.ovenDoors[oven]).append('x').append(house.ovenHours[oven]);
      }
    }
    return output.length();
  }

  public char outputAt(int index) throws IndexOutOfBoundsException {
    if (index < 0 || index >= output.length()) {
      throw new IndexOutOfBoundsException("the output text has no such index");
    }
    return output.charAt(index);
  }

  // ---- scripts

  public int type(char character) throws IllegalArgumentException, IllegalStateException {
    if (character < LOWEST_CHARACTER || character > HIGHEST_CHARACTER) {
      throw new IllegalArgumentException("the character code is not between 32 and 126");
    }
    if (script.text.length() >= MOST_CHARACTERS) {
      throw new IllegalStateException("the script buffer is full");
    }
    script.text.append(character);
    return script.text.length();
  }

  public int runScript() throws IllegalArgumentException, IllegalStateException {
    int commands = script.countCommands();
    if (commands == NONE) {
      errorPlace = script.place;
      script.text.setLength(0);
      throw new IllegalArgumentException("the script does not have the required form");
    }
    spare.copyFrom(house);
    int carriedOut = carryOutCommands(commands);
    script.text.setLength(0);
    if (carriedOut < commands) {
      house.copyFrom(spare);
      failedPlace = carriedOut;
      throw new IllegalStateException("a command of the script failed");
    }
    history.push(spare);
    return commands;
  }

  /** Stops at the first command that is refused; returns how many were carried out. */
  private int carryOutCommands(int commands) {
    int[] numbers = script.numbers;
    int start = 0;
    for (int done = 0; done < commands; done++) {
      Command command = script.read(start);
      if (command == null) {
        return done;
      }
      Refusal refusal =
          house.refusalOf(command, numbers[0], numbers[1], numbers[2], numbers[3]);
      if (refusal != Refusal.NOTHING) {
        return done;
      }
      house.carryOut(command, numbers[0], numbers[1], numbers[2], numbers[3]);
      start = script.place + 1;
    }
    return commands;
  }

  public int errorPosition() throws NoSuchElementException {
    if (errorPlace == NONE) {
      throw new NoSuchElementException("no script had a wrong form");
    }
    return errorPlace;
  }

  public int failedCommand() throws NoSuchElementException {
    if (failedPlace == NONE) {
      throw new NoSuchElementException("no script had a command that failed");
    }
    return failedPlace;
  }

  // ---- undo and snapshot

  public int undo() throws NoSuchElementException {
    if (history.count == 0) {
      throw new NoSuchElementException("there is nothing to undo");
    }
    history.popInto(house);
    return history.count;
  }

  public int save() {
    snapshot.copyFrom(house);
    saved = true;
    return house.doors;
  }

  public int restore() throws IllegalStateException {
    if (!saved) {
      throw new IllegalStateException("there is no snapshot");
    }
    house.copyFrom(snapshot);
    history.count = 0;
    return house.doors;
  }

  // ---- what the classes inside share

  private static boolean isDial(int dial) {
    return dial >= 0 && dial < DIALS;
  }

  private static boolean isOven(int oven) {
    return oven >= 0 && oven < OVENS;
  }

  private static boolean isPosition(int position) {
    return position >= 0 && position < POSITIONS;
  }

  private static boolean areNoPositions(int first, int second, int third) {
    return !isPosition(first) || !isPosition(second) || !isPosition(third);
  }

  /** Why a change is refused; the names tell which exception the face throws for it. */
  private enum Refusal {
    NOTHING,
    NO_SUCH_INDEX,
    BAD_ARGUMENT,
    WRONG_STATE,
    NOT_SUPPORTED
  }

  /**
   * The changes, each with its form in a script. In a form, # is a digit that is a number of its
   * own, &amp; a further digit of the number before it, and ~ the sign of the number behind it. An
   * hour has three forms, one for each number of digits.
   */
  private enum Command {
    DOOR("door ###"),
    TURN("turn ##~#"),
    TRY("try #"),
    SHUT("shut #"),
    DAMP("damp #"),
    BAKE("bake # #"),
    ONE_HOUR("hour"),
    HOURS("hour #"),
    MANY_HOURS("hour #&"),
    SET("set # ###");

    final String form;

    Command(String form) {
      this.form = form;
    }
  }

  private static final class Lock {
    final int[] dials = new int[DIALS];
    final int[] combination = new int[DIALS];
    boolean open = false;
    int crumbs = 0;

    void copyFrom(Lock other) {
      System.arraycopy(other.dials, 0, dials, 0, DIALS);
      System.arraycopy(other.combination, 0, combination, 0, DIALS);
      open = other.open;
      crumbs = other.crumbs;
    }

    boolean hasMostCrumbs() {
      return crumbs == MOST_CRUMBS;
    }

    int playNow() {
      return crumbs / CRUMBS_PER_PLAY;
    }

    int distanceOf(int dial) {
      int upwards = (combination[dial] - dials[dial] + POSITIONS) % POSITIONS;
      int downwards = POSITIONS - upwards;
      return upwards < downwards ? upwards : downwards;
    }

    int countFitting() {
      int fitting = 0;
      int play = playNow();
      for (int dial = 0; dial < DIALS; dial++) {
        if (distanceOf(dial) <= play) {
          fitting++;
        }
      }
      return fitting;
    }

    int stepsByDistances() {
      int steps = 0;
      for (int dial = 0; dial < DIALS; dial++) {
        steps += Math.max(0, distanceOf(dial) - playNow());
      }
      return steps;
    }

    int stepsByTurning(Lock copy) {
      int steps = 0;
      for (int dial = 0; dial < DIALS; dial++) {
        copy.copyFrom(this);
        int upwards = copy.turnUntilFitting(dial, 1);
        copy.copyFrom(this);
        int downwards = copy.turnUntilFitting(dial, -1);
        steps += Math.min(upwards, downwards);
      }
      return steps;
    }

    private int turnUntilFitting(int dial, int direction) {
      int turns = 0;
      int play = playNow();
      while (turns < POSITIONS && distanceOf(dial) > play) {
        turnBy(dial, direction);
        turns++;
      }
      return turns;
    }

    int turnBy(int dial, int steps) {
      dials[dial] = (dials[dial] + steps + POSITIONS) % POSITIONS;
      return dials[dial];
    }

    /** Returns true if the lock opens; a lock that becomes broken is open, but did not open. */
    boolean takeTry() {
      int fitting = countFitting();
      if (fitting == DIALS) {
        open = true;
        return true;
      }
      crumbs = Math.min(MOST_CRUMBS, crumbs + DIALS - fitting);
      open = hasMostCrumbs();
      return false;
    }

    int setPositions(int first, int second, int third) {
      int changed = 0;
      changed += setPosition(0, first);
      changed += setPosition(1, second);
      changed += setPosition(2, third);
      return changed;
    }

    private int setPosition(int dial, int position) {
      int changed = combination[dial] == position ? 0 : 1;
      combination[dial] = position;
      return changed;
    }

    /** Makes the lock as it comes out of an oven; its combination stays. */
    void renew() {
      for (int dial = 0; dial < DIALS; dial++) {
        dials[dial] = 0;
      }
      open = false;
      crumbs = 0;
    }
  }

  /** All that undo and the snapshot cover. Its methods that change it take numbers that are fit. */
  private static final class House {
    final Lock[] locks = new Lock[MOST_DOORS];
    final int[] ovenDoors = new int[OVENS];
    final int[] ovenHours = new int[OVENS];
    /** The tries that are remembered, the latest one first. */
    final int[] triedDoors = new int[MOST_TRIES_REMEMBERED];
    final boolean[] triesOpened = new boolean[MOST_TRIES_REMEMBERED];
    int doors = 0;
    int damp = 0;
    int hour = 0;
    int tries = 0;
    int opened = 0;
    int brokenByTry = 0;
    int shutAgain = 0;
    int putInWhileShut = 0;
    int baked = 0;

    House() {
      for (int door = 0; door < MOST_DOORS; door++) {
        locks[door] = new Lock();
      }
      for (int oven = 0; oven < OVENS; oven++) {
        ovenDoors[oven] = NONE;
      }
    }

    void copyFrom(House other) {
      for (int door = 0; door < MOST_DOORS; door++) {
        locks[door].copyFrom(other.locks[door]);
      }
      System.arraycopy(other.ovenDoors, 0, ovenDoors, 0, OVENS);
      System.arraycopy(other.ovenHours, 0, ovenHours, 0, OVENS);
      for (int recency = 0; recency < MOST_TRIES_REMEMBERED; recency++) {
        triedDoors[recency] = other.triedDoors[recency];
        triesOpened[recency] = other.triesOpened[recency];
      }
      doors = other.doors;
      damp = other.damp;
      hour = other.hour;
      tries = other.tries;
      opened = other.opened;
      brokenByTry = other.brokenByTry;
      shutAgain = other.shutAgain;
      putInWhileShut = other.putInWhileShut;
      baked = other.baked;
    }

    boolean hasDoor(int door) {
      return door >= 0 && door < doors;
    }

    boolean isInOven(int door) {
      for (int oven = 0; oven < OVENS; oven++) {
        if (ovenDoors[oven] == door) {
          return true;
        }
      }
      return false;
    }

    // ---- which changes are refused: the exception that the document lists first comes first

    Refusal refusalOf(Command command, int first, int second, int third, int fourth) {
      switch (command) {
        case DOOR:
          return refusalOfDoor(first, second, third);
        case TURN:
          return refusalOfTurn(first, second, third);
        case TRY:
          return refusalOfTry(first);
        case SHUT:
          return refusalOfShut(first);
        case DAMP:
          return first < 0 || first > MOST_DAMP ? Refusal.BAD_ARGUMENT : Refusal.NOTHING;
        case BAKE:
          return refusalOfBake(first, second);
        case SET:
          return refusalOfSet(first, second, third, fourth);
        default:
          return first < 1 || first > MOST_HOURS ? Refusal.BAD_ARGUMENT : Refusal.NOTHING;
      }
    }

    private Refusal refusalOfDoor(int first, int second, int third) {
      if (areNoPositions(first, second, third)) {
        return Refusal.BAD_ARGUMENT;
      }
      return doors >= MOST_DOORS ? Refusal.WRONG_STATE : Refusal.NOTHING;
    }

    private Refusal refusalOfTurn(int door, int dial, int steps) {
      if (!hasDoor(door) || !isDial(dial)) {
        return Refusal.NO_SUCH_INDEX;
      }
      if (steps < -MOST_STEPS || steps > MOST_STEPS) {
        return Refusal.BAD_ARGUMENT;
      }
      return isInOven(door) ? Refusal.WRONG_STATE : Refusal.NOTHING;
    }

    private Refusal refusalOfTry(int door) {
      if (!hasDoor(door)) {
        return Refusal.NO_SUCH_INDEX;
      }
      return locks[door].open ? Refusal.WRONG_STATE : Refusal.NOTHING;
    }

    private Refusal refusalOfShut(int door) {
      if (!hasDoor(door)) {
        return Refusal.NO_SUCH_INDEX;
      }
      if (!locks[door].open || isInOven(door)) {
        return Refusal.WRONG_STATE;
      }
      return locks[door].hasMostCrumbs() ? Refusal.NOT_SUPPORTED : Refusal.NOTHING;
    }

    private Refusal refusalOfBake(int door, int oven) {
      if (!hasDoor(door) || !isOven(oven)) {
        return Refusal.NO_SUCH_INDEX;
      }
      if (isInOven(door)) {
        return Refusal.WRONG_STATE;
      }
      return ovenDoors[oven] == NONE ? Refusal.NOTHING : Refusal.NOT_SUPPORTED;
    }

    private Refusal refusalOfSet(int door, int first, int second, int third) {
      if (!hasDoor(door)) {
        return Refusal.NO_SUCH_INDEX;
      }
      if (areNoPositions(first, second, third)) {
        return Refusal.BAD_ARGUMENT;
      }
      return !locks[door].open || isInOven(door) ? Refusal.WRONG_STATE : Refusal.NOTHING;
    }

    // ---- changes that are not refused

    /**
     * Takes the numbers in the order of the parameters of the face's method, and returns what that
     * method returns, 1 and 0 for true and false.
     */
    int carryOut(Command command, int first, int second, int third, int fourth) {
      switch (command) {
        case DOOR:
          return addLock(first, second, third);
        case TURN:
          return locks[first].turnBy(second, third);
        case TRY:
          return tryDoor(first) ? 1 : 0;
        case SHUT:
          return shutDoor(first);
        case DAMP:
          return replaceDamp(first);
        case BAKE:
          return putIn(first, second);
        case SET:
          return locks[first].setPositions(second, third, fourth);
        default:
          return letHoursPass(first);
      }
    }

    private int addLock(int first, int second, int third) {
      // Undo and restore copy all six locks, so that one without a door is always as new.
      locks[doors].setPositions(first, second, third);
      doors++;
      return doors - 1;
    }

    private boolean tryDoor(int door) {
      boolean opens = locks[door].takeTry();
      tries++;
      if (opens) {
        opened++;
      } else if (locks[door].open) {
        brokenByTry++;
      }
      for (int recency = MOST_TRIES_REMEMBERED - 1; recency > 0; recency--) {
        triedDoors[recency] = triedDoors[recency - 1];
        triesOpened[recency] = triesOpened[recency - 1];
      }
      triedDoors[0] = door;
      triesOpened[0] = opens;
      return opens;
    }

    private int shutDoor(int door) {
      locks[door].open = false;
      shutAgain++;
      return countShut();
    }

    private int replaceDamp(int newDamp) {
      int previous = damp;
      damp = newDamp;
      return previous;
    }

    private int putIn(int door, int oven) {
      if (!locks[door].open) {
        putInWhileShut++;
      }
      locks[door].open = true;
      ovenDoors[oven] = door;
      ovenHours[oven] = 1 + locks[door].crumbs / CRUMBS_PER_BAKING_HOUR;
      return ovenHours[oven];
    }

    int letHoursPass(int hours) {
      int before = baked;
      for (int passed = 0; passed < hours; passed++) {
        letHourPass();
      }
      return baked - before;
    }

    /** Locks drift before the ovens go on: one that is baked now drifts from the next hour on. */
    void letHourPass() {
      hour++;
      if (hour % (HOURS_FROM_DRIFT_TO_DRIFT - damp) == 0) {
        driftShutLocks(hour % DIALS);
      }
      for (int oven = 0; oven < OVENS; oven++) {
        bakeOn(oven);
      }
    }

    private void driftShutLocks(int dial) {
      for (int door = 0; door < doors; door++) {
        if (!locks[door].open) {
          locks[door].turnBy(dial, 1);
        }
      }
    }

    private void bakeOn(int oven) {
      int door = ovenDoors[oven];
      if (!hasDoor(door)) {
        return;
      }
      ovenHours[oven]--;
      if (ovenHours[oven] == 0) {
        locks[door].renew();
        ovenDoors[oven] = NONE;
        baked++;
      }
    }

    // ---- counts

    int countRemembered() {
      return Math.min(tries, MOST_TRIES_REMEMBERED);
    }

    int countShut() {
      int shutNow = 0;
      for (int door = 0; door < doors; door++) {
        if (!locks[door].open) {
          shutNow++;
        }
      }
      return shutNow;
    }

    int countShutByAccounts() {
      return doors + baked + shutAgain - opened - brokenByTry - putInWhileShut;
    }

    int rankByCrumbs(int door) {
      int rank = 0;
      for (int other = 0; other < doors; other++) {
        if (other != door && comesBefore(other, door)) {
          rank++;
        }
      }
      return rank;
    }

    private boolean comesBefore(int door, int other) {
      if (locks[door].crumbs != locks[other].crumbs) {
        return locks[door].crumbs > locks[other].crumbs;
      }
      int steps = locks[door].stepsByDistances();
      int otherSteps = locks[other].stepsByDistances();
      return steps != otherSteps ? steps < otherSteps : door < other;
    }
  }

  /** The states before the latest changes, in a ring. */
  private static final class History {
    final House[] states = new House[MOST_CHANGES_KEPT];
    int first = 0;
    int count = 0;

    History() {
      for (int place = 0; place < MOST_CHANGES_KEPT; place++) {
        states[place] = new House();
      }
    }

    void push(House house) {
      if (count == MOST_CHANGES_KEPT) {
        first = (first + 1) % MOST_CHANGES_KEPT;
        count--;
      }
      states[(first + count) % MOST_CHANGES_KEPT].copyFrom(house);
      count++;
    }

    void popInto(House house) {
      if (count > 0) {
        count--;
        house.copyFrom(states[(first + count) % MOST_CHANGES_KEPT]);
      }
    }
  }

  /** The script buffer, and the reading of it. */
  private static final class Script {
    final StringBuilder text = new StringBuilder();
    /** The numbers of the command that was read last. */
    final int[] numbers = new int[MOST_NUMBERS];
    /** Where the command that was read last ends, or the error position if there is none. */
    int place = 0;

    /** Returns NONE if the script does not have the form; place is the error position then. */
    int countCommands() {
      int start = 0;
      for (int commands = 1; commands <= MOST_CHARACTERS; commands++) {
        if (read(start) == null) {
          return NONE;
        }
        if (place == text.length()) {
          return commands;
        }
        start = place + 1;
      }
      return NONE;
    }

    /** Returns null if no command from start on ends at a semicolon or at the end of the script. */
    Command read(int start) {
      place = start;
      for (Command command : COMMANDS) {
        int reached = start + countMatching(command.form, start);
        if (reached == start + command.form.length() && canEndAt(reached)) {
          place = reached;
          readNumbers(command.form, start);
          return command;
        }
        // The form that goes on longest tells the first character that continues no form.
        place = Math.max(place, reached);
      }
      return null;
    }

    private boolean canEndAt(int index) {
      return index >= text.length() || text.charAt(index) == ';';
    }

    private int countMatching(String form, int start) {
      int most = Math.min(form.length(), text.length() - start);
      int matching = 0;
      while (matching < most && isOf(form.charAt(matching), text.charAt(start + matching))) {
        matching++;
      }
      return matching;
    }

    private static boolean isOf(char formCharacter, char character) {
      if (formCharacter == '#' || formCharacter == '&') {
        return character >= '0' && character <= '9';
      }
      if (formCharacter == '~') {
        return character == '+' || character == '-';
      }
      return character == formCharacter;
    }

    private void readNumbers(String form, int start) {
      // An hour without a number is one hour.
      numbers[0] = 1;
      int count = 0;
      int sign = 1;
      for (int index = 0; index < form.length(); index++) {
        char kind = form.charAt(index);
        char character = text.charAt(start + index);
        if (kind == '~') {
          sign = character == '-' ? -1 : 1;
        } else if (kind == '#' && count < MOST_NUMBERS) {
          numbers[count] = sign * (character - '0');
          count++;
        } else if (kind == '&' && count > 0) {
          numbers[count - 1] = numbers[count - 1] * DECIMAL_BASE + character - '0';
        }
      }
    }
  }
}
