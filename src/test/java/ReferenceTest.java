import java.lang.reflect.InvocationTargetException;
import java.lang.reflect.Method;
import java.util.ArrayList;
import java.util.Arrays;
import java.util.Comparator;
import java.util.List;

/**
 * All promises: long mixed runs of calls, each answered by the class and by the Reference. The runs
 * are the same each time.
 */
public final class ReferenceTest {

  private static final int RUNS = 3000;
  private static final int CALLS = 512;
  private static final String[] CHANGES = {
    "addDoor", "turn", "tryLock", "tryLock", "tryLock", "shut", "setCombination", "bake",
    "passHours", "setDamp"
  };
  private static final int[] ODD = {
    Integer.MIN_VALUE, -61, -10, -1, 10, 11, 60, 61, 62, Integer.MAX_VALUE
  };

  private static long seed = 20261119;
  private static int calls = 0;
  private static int wrong = 0;

  private final BiscuitLocks tested = new BiscuitLocks();
  private final Reference reference = new Reference();
  private final StringBuilder told = new StringBuilder();
  private int made = 0;

  public static void main(String[] args) throws ReflectiveOperationException {
    List<Method> face = face();
    for (int run = 0; run < RUNS && wrong == 0; run++) {
      new ReferenceTest().run(face, run);
    }
    System.out.println(calls + " calls of " + face.size() + " methods, " + wrong + " wrong");
    if (wrong > 0 || face.size() != 49) {
      System.exit(1);
    }
  }

  private static List<Method> face() {
    List<Method> face = new ArrayList<>();
    for (Method method : BiscuitLocks.class.getDeclaredMethods()) {
      if (java.lang.reflect.Modifier.isPublic(method.getModifiers())) {
        face.add(method);
      }
    }
    face.sort(Comparator.comparing(Method::getName));
    return face;
  }

  /** Numbers from 0 to below the bound, always the same ones. */
  private static int next(int bound) {
    seed = seed * 6364136223846793005L + 1442695040888963407L;
    return (int) ((seed >>> 33) % bound);
  }

  private void run(List<Method> face, int run) throws ReflectiveOperationException {
    int rarely = 2 + run % 7;
    int doors = 1 + next(6);
    for (int door = 0; door < doors; door++) {
      call(find(face, "addDoor"), next(10), next(10), next(10));
    }
    while (made < CALLS && wrong == 0) {
      int kind = next(10);
      if (kind < 5) {
        Method method = find(face, CHANGES[next(CHANGES.length)]);
        call(method, arguments(method, rarely));
      } else if (kind == 5 && next(3) == 0) {
        script(face);
      } else if (kind == 5 && next(rarely) > 0) {
        bringNearOpening(face);
      } else {
        Method method = face.get(next(face.size()));
        if (method.getName().equals("restore") && next(3) > 0) {
          continue;
        }
        call(method, arguments(method, rarely));
      }
    }
  }

  private static Method find(List<Method> face, String name) {
    for (Method method : face) {
      if (method.getName().equals(name)) {
        return method;
      }
    }
    throw new IllegalStateException("no method " + name);
  }

  private Object[] arguments(Method method, int rarely) {
    Object[] arguments = new Object[method.getParameterCount()];
    for (int place = 0; place < arguments.length; place++) {
      if (method.getParameterTypes()[place] == char.class) {
        arguments[place] = (char) (next(9) == 0 ? next(300) : 32 + next(95));
      } else if (next(rarely * 5) == 0) {
        arguments[place] = ODD[next(ODD.length)];
      } else {
        arguments[place] = ordinary(method.getName(), place);
      }
    }
    return arguments;
  }

  private Integer ordinary(String name, int place) {
    boolean ofOven = name.equals("bakedDoor") || name.equals("bakingHours");
    if (name.equals("passHours") || name.equals("dialAfter") && place == 2) {
      return next(4) == 0 ? next(62) : next(8);
    }
    if (name.equals("addDoor") || name.equals("setCombination") && place > 0
        || name.equals("setDamp") || name.equals("outputAt")) {
      return next(10);
    }
    if (name.equals("turn") && place == 2) {
      return next(19) - 9;
    }
    if (name.equals("triedDoor") || name.equals("didOpen")) {
      return next(11);
    }
    if (name.equals("bake") && place == 1 || ofOven) {
      return next(2);
    }
    if (place == 1) {
      return next(3);
    }
    return next(12) == 0 ? next(7) : next(Math.max(1, reference.doorCount()));
  }

  /** Turns some dials of a lock to its combination, as tries at random open hardly any lock. */
  private void bringNearOpening(List<Method> face) throws ReflectiveOperationException {
    int door = next(reference.doorCount() + 1);
    for (int dial = 0; dial < 3 && door < reference.doorCount(); dial++) {
      if (next(8) > 0) {
        int steps = reference.combination(door, dial) - reference.dial(door, dial);
        call(find(face, "turn"), door, dial, steps);
      }
    }
    call(find(face, "tryLock"), door);
  }

  private void script(List<Method> face) throws ReflectiveOperationException {
    StringBuilder script = new StringBuilder();
    int commands = 1 + next(5);
    for (int command = 0; command < commands; command++) {
      script.append(command == 0 ? "" : ";").append(command());
    }
    if (next(4) == 0) {
      int place = next(script.length() + 1);
      char character = "0123456789 ;+-abdehikmnoprstuxy".charAt(next(31));
      if (next(2) == 0) {
        script.insert(place, character);
      } else if (place < script.length()) {
        script.setCharAt(place, character);
      } else {
        script.setLength(place == 0 ? 0 : place - 1);
      }
    }
    for (int index = 0; index < script.length(); index++) {
      call(find(face, "type"), script.charAt(index));
    }
    call(find(face, "runScript"));
  }

  private String command() {
    int door = ordinary("tryLock", 0);
    switch (next(9)) {
      case 0:
        return "door " + next(10) + next(10) + next(10);
      case 1:
        return "turn " + door + next(3) + (next(2) == 0 ? "+" : "-") + next(10);
      case 2:
        return "try " + door;
      case 3:
        return "shut " + door;
      case 4:
        return "damp " + next(10);
      case 5:
        return "bake " + door + " " + next(2);
      case 6:
        return "hour";
      case 7:
        return next(2) == 0 ? "hour " + next(10) : "hour " + next(7) + next(10);
      default:
        return "set " + door + " " + next(10) + next(10) + next(10);
    }
  }

  private void call(Method method, Object... arguments) throws ReflectiveOperationException {
    if (made >= CALLS || wrong > 0) {
      return;
    }
    made++;
    calls++;
    Object got = answer(tested, method, arguments);
    Method due = Reference.class.getMethod(method.getName(), method.getParameterTypes());
    Object want = answer(reference, due, arguments);
    told.append(method.getName()).append(Arrays.toString(arguments));
    told.append(" -> ").append(got).append('\n');
    if (!got.equals(want)) {
      wrong++;
      System.out.print(told);
      System.out.println("due is " + want);
    }
  }

  private static Object answer(Object object, Method method, Object[] arguments)
      throws ReflectiveOperationException {
    try {
      return method.invoke(object, arguments);
    } catch (InvocationTargetException thrown) {
      return thrown.getCause().getClass().getName();
    }
  }
}
