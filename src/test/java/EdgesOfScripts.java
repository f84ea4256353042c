import java.util.function.Consumer;
import java.util.function.Supplier;

/** Boundaries in "Scripts", and in the promises 44 to 47. */
final class EdgesOfScripts {

  /** Eleven commands and a semicolon behind each: 55 characters. */
  private static final String ELEVEN = "hour;".repeat(11);
  /** One command of each form, with the least and with the largest digits. */
  private static final String[] COMMANDS = {
    "door 000", "door 999", "turn 00+0", "turn 99-9", "turn 00-0", "turn 99+9", "try 0", "try 9",
    "shut 0", "shut 9", "damp 0", "damp 9", "bake 0 0", "bake 9 9", "hour", "hour 0", "hour 9",
    "hour 00", "hour 99", "set 0 000", "set 9 999"
  };

  private EdgesOfScripts() {
  }

  static void hold() {
    holdForm();
    holdMeaning();
    holdErrorPositionInTerms();
    holdType();
    holdRunScript();
    holdPositions();
  }

  // ---- the form

  private static void holdForm() {
    Sentences.held("Scripts",
        "A script is typed into a buffer of at most 60 characters and then run.", () -> {
          // In the hour 10, the dial 1 drifts to the position at which the lock opens.
          BiscuitLocks x = Check.doors("010");
          Check.typeIn(x, ELEVEN + "try 0");
          Check.thrown("the character 61", Edges.STATE, () -> x.type(';'));
          Check.same("a script of 60 characters", x.runScript(), 12);
          Check.same("its first commands", x.hour(), 11);
          Check.same("its last command", x.isOpen(0), true);
          Check.typeIn(x, ELEVEN + "hour ");
          Check.thrown("the character 61", Edges.STATE, () -> x.type('9'));
          Check.thrown("a wrong one of 60", Edges.ARGUMENT, x::runScript);
          Check.same("its error position", x.errorPosition(), 60);
        });
    Sentences.held("Scripts", "`script = command { \";\" command`}", () -> {
      wrongForm("", 0);
      wrongForm(";", 0);
      rightForm("hour", 1);
      wrongForm(";hour", 0);
      wrongForm("hour;", 5);
      rightForm("hour;hour", 2);
      wrongForm("hour;;hour", 5);
      wrongForm("hour hour", 5);
      wrongForm("hour,hour", 4);
      wrongForm("hourhour", 4);
      rightForm(ELEVEN + "hour", 12);
      wrongForm(ELEVEN + "hour;", 60);
      for (String first : COMMANDS) {
        for (String second : COMMANDS) {
          rightForm(first + ";" + second, 2);
        }
      }
    });
    Sentences.held("Scripts",
        "`command = \"door \" digit digit digit | \"turn \" digit digit ( \"+\" | \"-\" ) digit |"
            + " \"try \" digit | \"shut \" digit | \"damp \" digit | \"bake \" digit \" \" digit |"
            + " \"hour\" [ \" \" number ] | \"set \" digit \" \" digit digit digit`",
        () -> {
          for (String command : COMMANDS) {
            rightForm(command, 1);
            everyOtherCharacter(command);
            oneCharacterMoreOrLess(command);
          }
        });
    Sentences.held("Scripts", "`number = digit [ digit ]`", () -> {
      for (int number = 0; number <= 99; number++) {
        rightForm("hour " + number, 1);
        rightForm("hour " + number / 10 + number % 10, 1);
      }
      wrongForm("hour ", 5);
      wrongForm("hour  1", 5);
      wrongForm("hour /", 5);
      wrongForm("hour :", 5);
      wrongForm("hour 1/", 6);
      wrongForm("hour 1:", 6);
      wrongForm("hour 000", 7);
      wrongForm("hour 100", 7);
      wrongForm("hour 001", 7);
      wrongForm("hour -1", 5);
      wrongForm("hour +1", 5);
    });
  }

  /** The script has the form: it is run, or one of its commands fails. */
  private static void rightForm(String script, int commands) {
    BiscuitLocks x = Edges.openHouse(6);
    String thrown = Check.thrownBy(
        () -> Check.same("runScript of \"" + script + "\"", Check.run(x, script), commands));
    if (thrown.equals("IllegalStateException")) {
      int failed = x.failedCommand();
      Check.same("the failed command of \"" + script + "\" is one of it",
          failed >= 0 && failed < commands, true);
    } else {
      Check.same("what \"" + script + "\" throws", thrown, "nothing");
    }
    Check.thrown("errorPosition after \"" + script + "\"", Edges.ELEMENT, x::errorPosition);
  }

  private static void wrongForm(String script, int due) {
    BiscuitLocks x = Edges.openHouse(6);
    Check.thrown("\"" + script + "\"", Edges.ARGUMENT, () -> Check.run(x, script));
    Check.same("errorPosition of \"" + script + "\"", x.errorPosition(), due);
    Check.thrown("failedCommand after \"" + script + "\"", Edges.ELEMENT, x::failedCommand);
  }

  /** Each place of the command takes what the form says and no other character. */
  private static void everyOtherCharacter(String command) {
    for (int place = 0; place < command.length(); place++) {
      char due = command.charAt(place);
      for (char other = 32; other <= 126; other++) {
        String script = command.substring(0, place) + other + command.substring(place + 1);
        boolean digits = Character.isDigit(due) && Character.isDigit(other);
        boolean signs = (due == '+' || due == '-') && (other == '+' || other == '-');
        if (digits || signs || due == other) {
          rightForm(script, 1);
        } else {
          wrongForm(script, Reference.errorOf(script));
        }
      }
    }
  }

  private static void oneCharacterMoreOrLess(String command) {
    for (int length = 0; length < command.length(); length++) {
      String shorter = command.substring(0, length);
      if (!shorter.equals("hour") && !shorter.matches("hour [0-9]")) {
        wrongForm(shorter, length);
        wrongForm(shorter + ";" + command, length);
      }
    }
    for (char more = 32; more <= 126; more++) {
      boolean space = command.equals("hour") && more == ' ';
      boolean digit = command.matches("hour [0-9]") && Character.isDigit(more);
      if (digit) {
        rightForm(command + more, 1);
      } else {
        wrongForm(command + more, command.length() + (space || more == ';' ? 1 : 0));
      }
    }
  }

  // ---- what the commands do

  private static void holdMeaning() {
    Sentences.held("Scripts",
        "The commands stand for the methods addDoor, turn (with a negative number for \"-\"),"
            + " tryLock, shut, setDamp, bake, passHours and setCombination with the numbers as"
            + " arguments in the order of the parameters; hour without a number passes 1 hour.",
        EdgesOfScripts::commandsAreMethods);
    Sentences.held("Scripts",
        "The commands are executed in order, and either all of them take effect or none.", () -> {
          BiscuitLocks x = Check.doors("000");
          Check.same("a script in its order", Check.run(x, "try 0;shut 0;turn 00+1;try 0"), 4);
          Check.same("the lock", Check.lockText(x, 0), "100/000c1s");
          Check.refusedScript("shut 0;try 0;turn 00-1", Edges.STATE, () -> Check.doors("000"));
          Check.refusedScript("try 0;turn 00+1;try 0", Edges.STATE, () -> Check.doors("000"));
          Check.refusedScript(ELEVEN + "try 9", Edges.STATE, EdgesOfScripts::fullHistory);
          Check.refusedScript("bake 0 0;hour;door 123;damp 9;hour 60;door 456;try 0;shut 9",
              Edges.STATE, EdgesOfScripts::fullHistory);
        });
  }

  /** Three shut locks and a broken one, a snapshot, and as many changes as can be undone. */
  private static BiscuitLocks fullHistory() {
    BiscuitLocks x = Edges.shutHouse(4);
    Check.tryTimes(x, 3, 7);
    x.save();
    x.setDamp(4);
    return x;
  }

  private static void commandsAreMethods() {
    Supplier<BiscuitLocks> none = BiscuitLocks::new;
    Supplier<BiscuitLocks> shut = () -> Edges.shutHouse(6);
    Supplier<BiscuitLocks> open = () -> Edges.openHouse(6);
    means("door 000", none, x -> x.addDoor(0, 0, 0));
    means("door 999", none, x -> x.addDoor(9, 9, 9));
    means("door 190", () -> Edges.shutHouse(5), x -> x.addDoor(1, 9, 0));
    means("turn 00+0", shut, x -> x.turn(0, 0, 0));
    means("turn 00-0", shut, x -> x.turn(0, 0, 0));
    means("turn 01+9", shut, x -> x.turn(0, 1, 9));
    means("turn 01-9", shut, x -> x.turn(0, 1, -9));
    means("turn 52+1", shut, x -> x.turn(5, 2, 1));
    means("turn 52-1", shut, x -> x.turn(5, 2, -1));
    means("try 0", shut, x -> x.tryLock(0));
    means("try 5", shut, x -> x.tryLock(5));
    means("shut 0", open, x -> x.shut(0));
    means("shut 5", open, x -> x.shut(5));
    means("damp 0", shut, x -> x.setDamp(0));
    means("damp 9", shut, x -> x.setDamp(9));
    means("bake 0 0", shut, x -> x.bake(0, 0));
    means("bake 0 1", shut, x -> x.bake(0, 1));
    means("bake 1 0", shut, x -> x.bake(1, 0));
    means("bake 5 1", shut, x -> x.bake(5, 1));
    means("hour", shut, x -> x.passHours(1));
    for (int hours = 1; hours <= 60; hours++) {
      int passed = hours;
      means("hour " + passed, shut, x -> x.passHours(passed));
    }
    means("hour 01", shut, x -> x.passHours(1));
    means("hour 09", shut, x -> x.passHours(9));
    means("set 0 000", open, x -> x.setCombination(0, 0, 0, 0));
    means("set 0 999", open, x -> x.setCombination(0, 9, 9, 9));
    means("set 5 190", open, x -> x.setCombination(5, 1, 9, 0));
    BiscuitLocks x = Edges.shutHouse(6);
    Check.run(x, "hour 9;hour");
    Check.same("hour without a number behind one with a number", x.hour(), 10);
    Check.run(x, "turn 00-3;turn 01+3;turn 12-1;damp 2");
    Check.same("a sign counts for its command alone", Check.lockText(x, 0), "740/555c0s");
    Check.same("so does the number behind it", x.damp(), 2);
  }

  private static void means(
      String script, Supplier<BiscuitLocks> setUp, Consumer<BiscuitLocks> call) {
    Supplier<BiscuitLocks> run = () -> {
      BiscuitLocks x = setUp.get();
      Check.run(x, script);
      return x;
    };
    Supplier<BiscuitLocks> called = () -> {
      BiscuitLocks x = setUp.get();
      call.accept(x);
      return x;
    };
    Check.same("all that is held after \"" + script + "\"", Whole.of(run), Whole.of(called));
  }

  private static void holdErrorPositionInTerms() {
    Sentences.held("Scripts",
        "The error position of a script that does not have this form is the index of the first"
            + " character that cannot continue any script of this form, or the length of the script"
            + " if every character can and the end comes too early.",
        () -> {
          wrongForm("", 0);
          wrongForm(" ", 0);
          wrongForm("~", 0);
          wrongForm("x", 0);
          wrongForm("d", 1);
          wrongForm("do", 2);
          wrongForm("da", 2);
          wrongForm("de", 1);
          wrongForm("t", 1);
          wrongForm("ty", 1);
          wrongForm("tr", 2);
          wrongForm("tu", 2);
          wrongForm("s", 1);
          wrongForm("sh", 2);
          wrongForm("se", 2);
          wrongForm("st", 1);
          wrongForm("hou", 3);
          wrongForm("hour ", 5);
          wrongForm("hour x", 5);
          wrongForm("hour 1 ", 6);
          wrongForm("hour 12 ", 7);
          wrongForm("hour;x", 5);
          wrongForm("hour;hour;x", 10);
          wrongForm("hour 1;s", 8);
          wrongForm("hour 12;se 0", 10);
          wrongForm("HOUR", 0);
          wrongForm("hour;Hour", 5);
          wrongForm("try 9;try", 9);
          wrongForm("try 9;try 9x;;", 11);
          wrongForm("hour 61;x", 8);
          wrongForm(ELEVEN + "x", 55);
          wrongForm(ELEVEN + "hourx", 59);
          wrongForm(ELEVEN + "hour;", 60);
          wrongForm(ELEVEN + "try  ", 59);
          wrongForm(ELEVEN + "turn ", 60);
          wrongForm(" ".repeat(60), 0);
          wrongForm("h".repeat(60), 1);
        });
  }

  // ---- promise 44

  private static void holdType() {
    Sentences.held(44, "Returns the length of the script buffer.", () -> {
      BiscuitLocks x = new BiscuitLocks();
      for (int length = 1; length <= 60; length++) {
        Check.same("type", x.type('x'), length);
      }
      Check.thrown("runScript", Edges.ARGUMENT, x::runScript);
      Check.same("type into the empty buffer", x.type('x'), 1);
      Check.thrown("type", Edges.ARGUMENT, () -> x.type((char) 127));
      Check.same("type after a refused character", x.type('x'), 2);
    });
    Sentences.held(44,
        "Throws `IllegalArgumentException` if the character code is not between 32 and 126", () -> {
          for (int code = 32; code <= 126; code++) {
            int good = code;
            Check.taken("type(" + code + ")", BiscuitLocks::new, x -> x.type((char) good));
          }
          for (int code : new int[] {0, 1, 9, 10, 31, 127, 128, 160, 255, 256, 288, 32767, 32768,
              65535}) {
            Edges.refused("type(" + code + ")", Edges.ARGUMENT,
                BiscuitLocks::new, x -> x.type((char) code));
            Check.refused("type(" + code + ") into a full buffer", Edges.ARGUMENT,
                () -> typed(60), x -> x.type((char) code));
          }
        });
    Sentences.held(44, "Throws `IllegalStateException` if the script buffer has 60 characters",
        () -> {
          for (int length : new int[] {0, 1, 58, 59}) {
            Check.taken("type behind " + length, () -> typed(length), x -> x.type(' '));
          }
          for (char character : new char[] {' ', ';', 'x', '~'}) {
            Check.refused("type behind 60", Edges.STATE, () -> typed(60), x -> x.type(character));
          }
          BiscuitLocks x = typed(60);
          Check.thrown("type behind 60", Edges.STATE, () -> x.type('x'));
          Check.thrown("type behind 60, again", Edges.STATE, () -> x.type('x'));
          Check.thrown("runScript", Edges.ARGUMENT, x::runScript);
          Check.same("type when it was run", x.type('x'), 1);
        });
  }

  /** A house without doors, and so many characters in its buffer. */
  private static BiscuitLocks typed(int length) {
    BiscuitLocks x = new BiscuitLocks();
    Check.typeIn(x, (ELEVEN + "hour;").substring(0, length));
    return x;
  }

  // ---- promise 45

  private static void holdRunScript() {
    Sentences.held(45, "The buffer is empty afterwards, also if an exception is thrown.", () -> {
      emptyAfter(ELEVEN + "hour", "nothing");
      emptyAfter("hour", "nothing");
      emptyAfter("", "IllegalArgumentException");
      emptyAfter("x", "IllegalArgumentException");
      emptyAfter(ELEVEN + "hour;", "IllegalArgumentException");
      emptyAfter("try 0", "IllegalStateException");
      emptyAfter(ELEVEN + "try 0", "IllegalStateException");
    });
    Sentences.held(45, "Returns the number of commands.", () -> {
      for (int commands = 1; commands <= 12; commands++) {
        String script = "hour;".repeat(commands - 1) + "hour";
        BiscuitLocks x = new BiscuitLocks();
        Check.same("runScript of \"" + script + "\"", Check.run(x, script), commands);
        Check.same("the commands that were carried out", x.hour(), commands);
      }
    });
    Sentences.held(45,
        "Throws `IllegalArgumentException` if the script does not have the required form;"
            + " errorPosition then returns its error position",
        EdgesOfScripts::refusedForms);
    Sentences.held(45,
        "Throws `IllegalStateException` if the method for a command throws an exception; no command"
            + " takes effect, and failedCommand then returns the index of that command",
        EdgesOfScripts::failedCommands);
  }

  private static void emptyAfter(String script, String due) {
    BiscuitLocks x = new BiscuitLocks();
    Check.same("what \"" + script + "\" throws", Check.thrownBy(() -> Check.run(x, script)), due);
    Check.same("type after \"" + script + "\"", x.type('h'), 1);
    Check.typeIn(x, "our 7");
    int before = x.hour();
    Check.same("the next script", x.runScript(), 1);
    Check.same("what it does", x.hour() - before, 7);
  }

  private static void refusedForms() {
    String[] scripts = {"", "x", "hour;", "try 9;x", "hour 99;hour ", ELEVEN + "hour;",
        "door 123;try 0;damp 9;hour 60;bake 0 0;s"};
    int[] due = {0, 0, 5, 6, 13, 60, 40};
    for (int place = 0; place < due.length; place++) {
      String script = scripts[place];
      Check.refusedScript(script, Edges.ARGUMENT, EdgesOfScripts::fullHistory);
      BiscuitLocks x = fullHistory();
      Check.thrown("\"" + script + "\"", Edges.ARGUMENT, () -> Check.run(x, script));
      Check.same("errorPosition of \"" + script + "\"", x.errorPosition(), due[place]);
      Check.thrown("failedCommand", Edges.ELEMENT, x::failedCommand);
    }
  }

  /** Each exception of each method for a command, at the index of the command. */
  private static void failedCommands() {
    fails("door 123;door 123;door 123", 2, () -> Edges.shutHouse(4));
    fails("door 000", 0, () -> Edges.shutHouse(6));
    for (int doors = 0; doors <= 6; doors++) {
      int count = doors;
      Supplier<BiscuitLocks> shut = () -> Edges.shutHouse(count);
      Supplier<BiscuitLocks> open = () -> Edges.openHouse(count);
      for (int door : new int[] {count, 9}) {
        fails("turn " + door + "0+1", 0, shut);
        fails("hour;try " + door, 1, shut);
        fails("hour;hour;shut " + door, 2, open);
        fails("bake " + door + " 0", 0, shut);
        fails("set " + door + " 000", 0, open);
      }
    }
    fails("turn 03+1", 0, () -> Edges.shutHouse(1));
    fails("turn 09-1", 0, () -> Edges.shutHouse(1));
    fails("turn 00+1;turn 00+1", 0, Edges::fullOvens);
    fails("try 0", 0, () -> Edges.openHouse(1));
    fails("try 0;try 0", 1, () -> Edges.crumbled(19));
    fails("shut 0", 0, () -> Edges.shutHouse(1));
    fails("shut 0", 0, Edges::fullOvens);
    fails("shut 0", 0, () -> Edges.crumbled(20));
    fails("bake 0 2", 0, () -> Edges.shutHouse(1));
    fails("bake 0 9", 0, () -> Edges.shutHouse(1));
    fails("bake 0 0;bake 0 1", 1, () -> Edges.shutHouse(1));
    fails("bake 0 1;bake 1 1", 1, () -> Edges.shutHouse(2));
    fails("hour 0", 0, BiscuitLocks::new);
    fails("hour 00", 0, BiscuitLocks::new);
    fails("hour 60;hour 61", 1, BiscuitLocks::new);
    fails("hour 01;hour 99", 1, BiscuitLocks::new);
    fails("set 0 555", 0, () -> Edges.shutHouse(1));
    fails("set 0 555", 0, Edges::fullOvens);
    fails(ELEVEN + "try 0", 11, () -> Edges.openHouse(6));
    fails("try 0;" + ELEVEN.substring(0, 54), 0, () -> Edges.openHouse(6));
  }

  private static void fails(String script, int due, Supplier<BiscuitLocks> setUp) {
    Check.refusedScript(script, Edges.STATE, setUp);
    BiscuitLocks x = setUp.get();
    Check.thrown("\"" + script + "\"", Edges.STATE, () -> Check.run(x, script));
    Check.same("failedCommand of \"" + script + "\"", x.failedCommand(), due);
    Check.thrown("errorPosition", Edges.ELEMENT, x::errorPosition);
  }

  // ---- promises 46 and 47

  private static void holdPositions() {
    Sentences.held(46,
        "Returns the error position of the latest script that did not have the required form.",
        () -> {
          BiscuitLocks x = new BiscuitLocks();
          Check.thrownBy(() -> Check.run(x, ELEVEN + "hour;"));
          Check.same("the largest", x.errorPosition(), 60);
          Check.run(x, "hour");
          Check.same("after a script that was run", x.errorPosition(), 60);
          Check.thrownBy(() -> Check.run(x, "hour;try 0"));
          Check.same("after a script that failed", x.errorPosition(), 60);
          Check.thrownBy(() -> Check.run(x, "hou"));
          Check.same("the latest", x.errorPosition(), 3);
          Check.thrownBy(() -> Check.run(x, ""));
          Check.same("the least", x.errorPosition(), 0);
        });
    Sentences.held(46, "Throws `NoSuchElementException` if there was no such script", () -> {
      Check.refused("errorPosition at first", Edges.ELEMENT,
          BiscuitLocks::new, BiscuitLocks::errorPosition);
      Check.refused("errorPosition, a script typed and not run", Edges.ELEMENT,
          () -> typed(60), BiscuitLocks::errorPosition);
      Check.refused("errorPosition after a script", Edges.ELEMENT,
          () -> ran("hour"), BiscuitLocks::errorPosition);
      Check.refused("errorPosition after a failed command", Edges.ELEMENT,
          () -> ran("hour;try 0"), BiscuitLocks::errorPosition);
    });
    Sentences.held(47,
        "Returns the index of the command that failed in the latest script with a failed command.",
        () -> {
          BiscuitLocks x = new BiscuitLocks();
          Check.thrownBy(() -> Check.run(x, ELEVEN + "try 0"));
          Check.same("failedCommand", x.failedCommand(), 11);
          Check.run(x, "hour");
          Check.same("after a script that was run", x.failedCommand(), 11);
          Check.thrownBy(() -> Check.run(x, "try 0;x"));
          Check.same("after a wrong form", x.failedCommand(), 11);
          Check.thrownBy(() -> Check.run(x, "hour;hour;try 0"));
          Check.same("the latest", x.failedCommand(), 2);
        });
    Sentences.held(47, "Returns the index of the command, counted from 0.", () -> {
      for (int index = 0; index <= 11; index++) {
        BiscuitLocks x = new BiscuitLocks();
        String script = "hour;".repeat(index) + "try 0" + ";hour".repeat(11 - index);
        Check.thrown("\"" + script + "\"", Edges.STATE, () -> Check.run(x, script));
        Check.same("failedCommand", x.failedCommand(), index);
      }
    });
    Sentences.held(47, "Throws `NoSuchElementException` if there was no such script", () -> {
      Check.refused("failedCommand at first", Edges.ELEMENT,
          BiscuitLocks::new, BiscuitLocks::failedCommand);
      Check.refused("failedCommand, a script typed and not run", Edges.ELEMENT,
          () -> typed(60), BiscuitLocks::failedCommand);
      Check.refused("failedCommand after a script", Edges.ELEMENT,
          () -> ran("hour"), BiscuitLocks::failedCommand);
      Check.refused("failedCommand after a wrong form", Edges.ELEMENT,
          () -> ran("try 0;x"), BiscuitLocks::failedCommand);
    });
  }

  /** A house without doors in which the script was run, whatever it threw. */
  private static BiscuitLocks ran(String script) {
    BiscuitLocks x = new BiscuitLocks();
    Check.thrownBy(() -> Check.run(x, script));
    return x;
  }
}
