import java.lang.reflect.Field;
import java.lang.reflect.InvocationTargetException;
import java.lang.reflect.Method;
import java.lang.reflect.Modifier;
import java.util.ArrayList;
import java.util.Comparator;
import java.util.List;

/**
 * Each part of the class looks at an index and a divisor itself: whatever numbers its methods are called with, the
 * public ones and those inside, the machine never throws. Only the methods called need.. throw, and the public ones.
 */
public final class GuardTest {
  private static final int[] NUMBERS = {
      Integer.MIN_VALUE, -2, -1, 0, 1, 2, 4, 9, 10, 12, 20, 101, 1001, Integer.MAX_VALUE};
  private static final int[] FEW_NUMBERS = {Integer.MIN_VALUE, -1, 0, 1, 20, Integer.MAX_VALUE};
  private static final List<Class<?>> THROWN = List.of(Expect.ARGUMENT, Expect.INDEX, Expect.STATE);

  public static void main(String[] args) throws ReflectiveOperationException {
    LightDesk empty = new LightDesk();
    LightDesk started = started();
    for (LightDesk desk : new LightDesk[] {empty, started}) {
      callAll(desk);
      for (Object part : parts(desk)) {
        callAll(part);
      }
      // Once more, as the calls on the parts have left numbers that no public call would.
      callAll(desk);
    }
    Expect.end("GuardTest");
  }

  private static LightDesk started() {
    LightDesk desk = new LightDesk();
    for (int i = 0; i < 3; i++) {
      desk.hang(i, desk.addLamp(20 - i, i), i);
      desk.setLevel(i % 2, desk.addCue(i % 2, i, 3 * i, true), i, 100);
    }
    desk.go(0, 0);
    desk.go(1, 0);
    return desk;
  }

  private static List<Object> parts(LightDesk desk) throws ReflectiveOperationException {
    List<Object> parts = new ArrayList<>();
    for (Field field : LightDesk.class.getDeclaredFields()) {
      if (field.getType().getEnclosingClass() == LightDesk.class) {
        field.setAccessible(true);
        parts.add(field.get(desk));
      }
    }
    Expect.same("the desk has parts", parts.size() > 0, true);
    return parts;
  }

  private static void callAll(Object target) throws ReflectiveOperationException {
    Method[] methods = target.getClass().getDeclaredMethods();
    // The machine names them in no order of its own, and the test is to be the same each time.
    java.util.Arrays.sort(methods, Comparator.comparing(Method::toString));
    for (Method method : methods) {
      if (takesNumbersAlone(method)) {
        method.setAccessible(true);
        callWithEach(target, method, new Object[method.getParameterCount()], 0);
      }
    }
  }

  private static boolean takesNumbersAlone(Method method) {
    for (Class<?> type : method.getParameterTypes()) {
      if (type != int.class && type != boolean.class) {
        return false;
      }
    }
    return !method.isSynthetic();
  }

  private static void callWithEach(Object target, Method method, Object[] arguments, int place)
      throws ReflectiveOperationException {
    if (place == arguments.length) {
      call(target, method, arguments);
    } else if (method.getParameterTypes()[place] == boolean.class) {
      arguments[place] = place % 2 == 0;
      callWithEach(target, method, arguments, place + 1);
    } else {
      for (int number : arguments.length > 3 ? FEW_NUMBERS : NUMBERS) {
        arguments[place] = number;
        callWithEach(target, method, arguments, place + 1);
      }
    }
  }

  private static void call(Object target, Method method, Object[] arguments) throws ReflectiveOperationException {
    Class<?> thrown = null;
    try {
      method.invoke(target, arguments);
    } catch (InvocationTargetException e) {
      thrown = e.getCause().getClass();
    }
    boolean mayThrow = Modifier.isPublic(method.getModifiers()) || method.getName().startsWith("need");
    boolean fine = thrown == null || mayThrow && THROWN.contains(thrown);
    Expect.same(method + " with " + java.util.Arrays.toString(arguments) + " threw " + thrown, fine, true);
  }
}
