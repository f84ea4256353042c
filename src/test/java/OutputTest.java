/** Promises 41 to 43: the output text. */
public final class OutputTest {

  public static void main(String[] args) {
    promise41RenderLock();
    promise42RenderOvens();
    promise43OutputAt();
    Check.finish();
  }

  private static void promise41RenderLock() {
    BiscuitLocks x = Check.doors("936", "555", "000");
    Check.turnTo(x, 0, 0, 4, 2);
    Check.tryTimes(x, 0, 3);
    Check.same("renderLock", x.renderLock(0), 10);
    Check.same("renderLock, shut", Check.lockText(x, 0), "042/936c7s");
    Check.tryTimes(x, 1, 7);
    Check.same("renderLock", x.renderLock(1), 11);
    Check.same("renderLock, broken", Check.lockText(x, 1), "000/555c20o");
    x.tryLock(2);
    Check.same("renderLock, open", Check.lockText(x, 2), "000/000c0o");
    x.bake(0, 0);
    Check.same("renderLock, in an oven", Check.lockText(x, 0), "042/936c7b");
    x.passHours(3);
    Check.same("renderLock, baked", Check.lockText(x, 0), "000/936c0s");
    for (int bad : new int[] {-1, 3, Integer.MIN_VALUE, Integer.MAX_VALUE}) {
      Check.refused("renderLock, no such door", IndexOutOfBoundsException.class,
          Check::baking, y -> y.renderLock(bad));
      Check.thrown("renderLock, no such door", IndexOutOfBoundsException.class,
          () -> x.renderLock(bad));
    }
    Check.same("the output text stays", Check.output(x, 10), "000/936c0s");
  }

  private static void promise42RenderOvens() {
    BiscuitLocks x = Check.doors("000", "111", "222", "555");
    Check.same("renderOvens", x.renderOvens(), 7);
    Check.same("renderOvens, no lock", Check.ovenText(x), "0:- 1:-");
    Check.tryTimes(x, 3, 4);
    x.bake(3, 0);
    Check.same("renderOvens", x.renderOvens(), 9);
    Check.same("renderOvens, one lock", Check.ovenText(x), "0:3x4 1:-");
    x.passHours(1);
    x.bake(0, 1);
    Check.same("renderOvens", x.renderOvens(), 11);
    Check.same("renderOvens, two locks", Check.ovenText(x), "0:3x3 1:0x1");
    x.passHours(3);
    x.bake(2, 1);
    Check.same("renderOvens, the other", Check.ovenText(x), "0:- 1:2x1");
  }

  private static void promise43OutputAt() {
    Check.thrown("outputAt, empty", IndexOutOfBoundsException.class,
        () -> new BiscuitLocks().outputAt(0));
    BiscuitLocks x = Check.broken();
    x.renderLock(0);
    x.renderOvens();
    Check.same("outputAt", x.outputAt(0), '0');
    Check.same("outputAt", x.outputAt(6), '-');
    for (int bad : new int[] {-1, 7, 10, Integer.MIN_VALUE, Integer.MAX_VALUE}) {
      Check.thrown("outputAt, no such index", IndexOutOfBoundsException.class,
          () -> x.outputAt(bad));
    }
    x.undo();
    Check.same("undo does not cover the output text", Check.output(x, 7), "0:- 1:-");
    x.save();
    x.renderLock(1);
    x.restore();
    Check.same("neither does restore", Check.output(x, 10), "000/395c0s");
  }
}
