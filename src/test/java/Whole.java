import java.util.function.Supplier;

/**
 * All that an object holds, in one text. Some of it is told only by calls that change the object,
 * so that each part is asked of an object of its own, made in the same way.
 */
final class Whole {

  private Whole() {
  }

  static String of(Supplier<BiscuitLocks> make) {
    return besideScripts(make)
        + "\npositions " + positionsOf(make.get())
        + "\nbuffer " + roomInBuffer(make.get())
        + "\nrun " + afterRun(make.get());
  }

  /** What a script that is refused leaves: all but the buffer and the two positions. */
  static String besideScripts(Supplier<BiscuitLocks> make) {
    StringBuilder whole = new StringBuilder();
    whole.append("state ").append(Check.stateOf(make.get()));
    whole.append("\noutput ").append(outputOf(make.get()));
    for (int undos = 1; undos <= 9; undos++) {
      whole.append("\nundo ").append(undos).append(' ').append(afterUndos(make.get(), undos));
    }
    whole.append("\nsnapshot ").append(afterRestore(make.get()));
    return whole.toString();
  }

  static String outputOf(BiscuitLocks x) {
    StringBuilder text = new StringBuilder();
    // The longest output text has 11 characters.
    for (int index = 0; index < 20; index++) {
      int place = index;
      Check.thrownBy(() -> text.append(x.outputAt(place)));
    }
    return text.toString();
  }

  private static String positionsOf(BiscuitLocks x) {
    StringBuilder positions = new StringBuilder();
    positions.append(Check.thrownBy(() -> positions.append(x.errorPosition()))).append(' ');
    positions.append(Check.thrownBy(() -> positions.append(x.failedCommand())));
    return positions.toString();
  }

  private static int roomInBuffer(BiscuitLocks x) {
    int room = 0;
    while (room <= 60 && Check.thrownBy(() -> x.type('h')).equals("nothing")) {
      room++;
    }
    return room;
  }

  private static String afterRun(BiscuitLocks x) {
    String thrown = Check.thrownBy(x::runScript);
    return thrown + ' ' + positionsOf(x) + ' ' + Check.stateOf(x);
  }

  private static String afterUndos(BiscuitLocks x, int undos) {
    StringBuilder told = new StringBuilder();
    for (int undo = 1; undo <= undos; undo++) {
      told.append(Check.thrownBy(() -> told.append(x.undo()))).append(' ');
    }
    return told + Check.stateOf(x);
  }

  private static String afterRestore(BiscuitLocks x) {
    StringBuilder told = new StringBuilder();
    told.append(Check.thrownBy(() -> told.append(x.restore()))).append(' ');
    return told + Check.stateOf(x);
  }
}
