/** Boundaries in the promises 41 to 43. */
final class EdgesOfOutput {

  private EdgesOfOutput() {
  }

  static void hold() {
    Sentences.held(41,
        "Replaces the output text by a description of a lock: the positions of its dials, \"/\" and"
            + " its combination, each as three digits, \"c\" and its crumbs, and \"o\" if it is"
            + " open and not in an oven, \"s\" if it is shut, or \"b\" if it is in an oven; as in"
            + " \"042/931c7s\".",
        EdgesOfOutput::locks);
    Sentences.held(41, "Returns the length of the output text.", () -> {
      Check.same("0 crumbs", Edges.crumbled(0).renderLock(0), 10);
      Check.same("9 crumbs", Edges.crumbled(9).renderLock(0), 10);
      Check.same("10 crumbs", Edges.crumbled(10).renderLock(0), 11);
      Check.same("20 crumbs", Edges.crumbled(20).renderLock(0), 11);
    });
    Sentences.held(41, "Throws `IndexOutOfBoundsException` if there is no such door",
        () -> Edges.doors(Edges::shutHouse, (x, door) -> x.renderLock(door)));
    Sentences.held(42,
        "Replaces the output text by a description of the ovens: for each oven its index, \":\","
            + " and the index of the door, \"x\" and the hours that are left, or \"-\" if it bakes"
            + " no lock, with a space between both ovens; as in \"0:3x4 1:-\".",
        EdgesOfOutput::ovens);
    Sentences.held(42, "Returns the length of the output text.", () -> {
      Check.same("empty ovens", new BiscuitLocks().renderOvens(), 7);
      Check.same("the oven 0", Check.baking().renderOvens(), 9);
      Check.same("the oven 1", Check.brokenAndBaking().renderOvens(), 9);
      Check.same("full ovens", Edges.fullOvens().renderOvens(), 11);
    });
    Sentences.held(43, "Returns a character of the output text, which is empty initially.",
        EdgesOfOutput::characters);
    Sentences.held(43, "Throws `IndexOutOfBoundsException` if there is no such index",
        EdgesOfOutput::noSuchIndex);
  }

  private static void locks() {
    BiscuitLocks x = Check.doors("000", "999", "000", "000", "000", "931");
    Check.turnTo(x, 1, 9, 9, 9);
    Check.turnTo(x, 5, 0, 4, 2);
    Check.same("the least", Check.lockText(x, 0), "000/000c0s");
    Check.same("the largest", Check.lockText(x, 1), "999/999c0s");
    Check.same("the last of six", Check.lockText(x, 5), "042/931c0s");
    Check.same("9 crumbs", Check.lockText(Edges.crumbled(9), 0), "000/500c9s");
    Check.same("10 crumbs", Check.lockText(Edges.crumbled(10), 0), "000/500c10s");
    Check.same("19 crumbs", Check.lockText(Edges.crumbled(19), 0), "000/500c19s");
    Check.same("broken", Check.lockText(Edges.crumbled(20), 0), "000/500c20o");
    Check.same("open", Check.lockText(Edges.openWith(19), 0), "000/000c19o");
    Check.same("broken, in an oven", Check.lockText(Check.brokenAndBaking(), 0), "000/555c20b");
    Check.same("in the oven 1", Check.lockText(Edges.fullOvens(), 1), "000/395c0b");
    BiscuitLocks longer = Edges.crumbled(20);
    longer.renderLock(0);
    longer.bake(0, 0);
    longer.passHours(6);
    Check.same("a shorter text replaces a longer one", longer.renderLock(0), 10);
    Check.same("the whole text", Whole.outputOf(longer), "000/500c0s");
    longer.renderOvens();
    Check.same("it is replaced by another", Whole.outputOf(longer), "0:- 1:-");
    longer.renderLock(0);
    Check.same("and that again", Whole.outputOf(longer), "000/500c0s");
  }

  private static void ovens() {
    Check.same("a house without doors", Check.ovenText(new BiscuitLocks()), "0:- 1:-");
    Check.same("the oven 0", Check.ovenText(Check.baking()), "0:0x3 1:-");
    Check.same("the oven 1", Check.ovenText(Check.brokenAndBaking()), "0:- 1:0x6");
    BiscuitLocks x = Edges.shutHouse(6);
    Check.tryTimes(x, 5, 7);
    x.bake(5, 0);
    x.bake(0, 1);
    Check.same("the most hours and the fewest", Check.ovenText(x), "0:5x6 1:0x1");
    x.passHours(1);
    Check.same("after an hour", Check.ovenText(x), "0:5x5 1:-");
    x.passHours(4);
    Check.same("in the last hour", Check.ovenText(x), "0:5x1 1:-");
    x.passHours(1);
    Check.same("after it", Check.ovenText(x), "0:- 1:-");
    Check.same("the whole text", Whole.outputOf(x), "0:- 1:-");
  }

  private static void characters() {
    Check.same("at first", Whole.outputOf(new BiscuitLocks()), "");
    BiscuitLocks x = Edges.crumbled(20);
    Check.same("before something is rendered", Whole.outputOf(x), "");
    x.renderLock(0);
    Check.same("the first character", x.outputAt(0), '0');
    Check.same("the fourth character", x.outputAt(3), '/');
    Check.same("the last character", x.outputAt(10), 'o');
    Check.thrown("renderLock", Edges.INDEX, () -> x.renderLock(1));
    Check.same("after a refused text", Whole.outputOf(x), "000/500c20o");
  }

  private static void noSuchIndex() {
    Check.refused("outputAt(0) at first", Edges.INDEX, BiscuitLocks::new, x -> x.outputAt(0));
    Check.refused("outputAt(-1) at first", Edges.INDEX, BiscuitLocks::new, x -> x.outputAt(-1));
    Edges.range("outputAt, 7 characters,", Edges.INDEX, 0, 6,
        Edges.lived(BiscuitLocks::new), (x, index) -> x.outputAt(index));
    Edges.range("outputAt, 11 characters,", Edges.INDEX, 0, 10,
        Edges.lived(Edges::fullOvens), (x, index) -> x.outputAt(index));
    Edges.range("outputAt, 10 characters after 11,", Edges.INDEX, 0, 9, () -> {
      BiscuitLocks x = Check.broken();
      x.renderLock(0);
      x.renderLock(1);
      return x;
    }, (x, index) -> x.outputAt(index));
  }
}
