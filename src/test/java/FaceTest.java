import java.lang.reflect.Constructor;
import java.lang.reflect.Field;
import java.lang.reflect.Method;
import java.lang.reflect.Modifier;
import java.util.Map;
import java.util.TreeMap;

/** The face of the class: every method with the exceptions that it declares, and nothing else. */
public final class FaceTest {

  private static final String INDEX = "IndexOutOfBoundsException";
  private static final String ARGUMENT = "IllegalArgumentException";
  private static final String STATE = "IllegalStateException";
  private static final String UNSUPPORTED = "UnsupportedOperationException";
  private static final String ELEMENT = "NoSuchElementException";
  private static final String ARITHMETIC = "ArithmeticException";

  private static final Map<String, String> DUE = new TreeMap<>();

  private static void due(String signature, String... exceptions) {
    DUE.put(signature, String.join(",", exceptions));
  }

  private static void dueChanges() {
    due("int addDoor(int,int,int)", ARGUMENT, STATE);
    due("int turn(int,int,int)", INDEX, ARGUMENT, STATE);
    due("boolean tryLock(int)", INDEX, STATE);
    due("int shut(int)", INDEX, STATE, UNSUPPORTED);
    due("int setCombination(int,int,int,int)", INDEX, ARGUMENT, STATE);
    due("int setDamp(int)", ARGUMENT);
    due("int bake(int,int)", INDEX, STATE, UNSUPPORTED);
    due("int passHours(int)", ARGUMENT);
    due("int type(char)", ARGUMENT, STATE);
    due("int runScript()", ARGUMENT, STATE);
    due("int undo()", ELEMENT);
    due("int save()");
    due("int restore()", STATE);
  }

  private static void dueOfDoors() {
    due("int doorCount()");
    due("int dial(int,int)", INDEX);
    due("int combination(int,int)", INDEX);
    due("boolean isOpen(int)", INDEX);
    due("boolean isBroken(int)", INDEX);
    due("int crumbs(int)", INDEX);
    due("int play(int)", INDEX);
    due("int fittingDials(int)", INDEX);
    due("int stepsToOpen(int)", INDEX);
    due("int stepsToOpenByTurning(int)", INDEX);
    due("int openingSettings(int)", INDEX);
    due("int triesUntilBroken(int)", INDEX, ELEMENT);
    due("int dialAfter(int,int,int)", INDEX, ARGUMENT);
    due("int hoursUntilFitting(int)", INDEX, ELEMENT);
    due("boolean isBaking(int)", INDEX);
    due("int renderLock(int)", INDEX);
  }

  private static void dueOfTheRest() {
    due("int bakedDoor(int)", INDEX, ELEMENT);
    due("int bakingHours(int)", INDEX);
    due("int doorByCrumbs(int)", ELEMENT);
    due("int rememberedTries()");
    due("int triedDoor(int)", ELEMENT);
    due("boolean didOpen(int)", ELEMENT);
    due("int shutLocks()");
    due("int shutLocksByAccounts()");
    due("int damp()");
    due("int hour()");
    due("int tryTotal()");
    due("int openedTotal()");
    due("int bakedTotal()");
    due("double meanCrumbs()", ARITHMETIC);
    due("float openedShare()", ARITHMETIC);
    due("boolean isConsistent()");
    due("int renderOvens()");
    due("char outputAt(int)", INDEX);
    due("int errorPosition()", ELEMENT);
    due("int failedCommand()", ELEMENT);
  }

  public static void main(String[] args) {
    dueChanges();
    dueOfDoors();
    dueOfTheRest();
    Class<?> tested = BiscuitLocks.class;
    Check.same("the class", Modifier.toString(tested.getModifiers()), "public final");
    Check.same("the superclass", tested.getSuperclass(), Object.class);
    Check.same("the constructors", tested.getDeclaredConstructors().length, 1);
    for (Constructor<?> constructor : tested.getDeclaredConstructors()) {
      Check.same("the constructor", constructor.toString(), "public BiscuitLocks()");
    }
    Check.same("the methods", publicMethods(tested), DUE);
    noOtherMembers(tested);
    Check.finish();
  }

  private static Map<String, String> publicMethods(Class<?> tested) {
    Map<String, String> found = new TreeMap<>();
    for (Method method : tested.getDeclaredMethods()) {
      if (!Modifier.isPrivate(method.getModifiers()) && !method.isSynthetic()) {
        Check.same(method.getName(), Modifier.toString(method.getModifiers()), "public");
        found.put(
            method.getReturnType() + " " + method.getName() + names(method.getParameterTypes()),
            names(method.getExceptionTypes()).replaceAll("[()]", ""));
      }
    }
    return found;
  }

  private static String names(Class<?>[] types) {
    StringBuilder names = new StringBuilder("(");
    for (Class<?> type : types) {
      names.append(names.length() > 1 ? "," : "").append(type.getSimpleName());
    }
    return names.append(')').toString();
  }

  private static void noOtherMembers(Class<?> tested) {
    for (Field field : tested.getDeclaredFields()) {
      Check.same("the field " + field.getName() + " is private",
          Modifier.isPrivate(field.getModifiers()), true);
    }
    for (Class<?> inside : tested.getDeclaredClasses()) {
      Check.same("the class " + inside.getSimpleName() + " is private",
          Modifier.isPrivate(inside.getModifiers()), true);
      for (Method method : inside.getDeclaredMethods()) {
        Check.same("the name " + method.getName() + " is not one of the face",
            DUE.keySet().stream().anyMatch(due -> due.contains(" " + method.getName() + "(")),
            false);
      }
    }
    for (Method method : tested.getDeclaredMethods()) {
      if (Modifier.isPrivate(method.getModifiers())) {
        Check.same("the name " + method.getName() + " is not one of the face",
            DUE.keySet().stream().anyMatch(due -> due.contains(" " + method.getName() + "(")),
            false);
      }
    }
  }
}
