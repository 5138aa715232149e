import java.lang.reflect.Constructor;
import java.lang.reflect.Executable;
import java.lang.reflect.Field;
import java.lang.reflect.Method;
import java.lang.reflect.Modifier;
import java.util.Set;
import java.util.TreeSet;

/** The face is the document's, and nothing else of the class is seen from outside. */
public final class FaceTest {
  private static final String ARGUMENT = " IllegalArgumentException";
  private static final String INDEX = " IndexOutOfBoundsException";
  private static final String STATE = " IllegalStateException";
  private static final Set<String> METHODS = Set.of(
      "int addLamp(int,int)" + ARGUMENT + STATE,
      "void swap(int,int,int)" + INDEX + ARGUMENT,
      "int hang(int,int,int)" + INDEX + ARGUMENT,
      "int setNight(int)" + ARGUMENT,
      "boolean setLatest(int,boolean)" + ARGUMENT,
      "int addCue(int,int,int,boolean)" + ARGUMENT + STATE,
      "int setLevel(int,int,int,int)" + ARGUMENT + INDEX,
      "int undo()" + STATE,
      "int go(int,int)" + ARGUMENT + INDEX,
      "int pass(int)" + ARGUMENT,
      "int running(int)" + ARGUMENT,
      "int level(int,int)" + ARGUMENT,
      "int merged(int)" + ARGUMENT,
      "int light(int)" + ARGUMENT,
      "int allLight()",
      "int preview(int,int,int)" + ARGUMENT + INDEX,
      "int touched(int,int,int,int)" + INDEX + ARGUMENT);

  public static void main(String[] args) {
    Class<?> desk = LightDesk.class;
    Expect.same("public and final", desk.getModifiers(), Modifier.PUBLIC | Modifier.FINAL);
    methods(desk);
    fields(desk);
    Constructor<?>[] constructors = desk.getDeclaredConstructors();
    Expect.same("one constructor", constructors.length, 1);
    Expect.same("without parameters", constructors[0].getParameterCount(), 0);
    Expect.same("public constructor", constructors[0].getModifiers(), Modifier.PUBLIC);
    for (Class<?> inner : desk.getDeclaredClasses()) {
      int seen = inner.getModifiers() & (Modifier.PUBLIC | Modifier.PROTECTED);
      Expect.same(inner + " is not seen", seen, 0);
      Expect.same(inner + " is static", Modifier.isStatic(inner.getModifiers()), true);
    }
    Expect.end("FaceTest");
  }

  private static void methods(Class<?> desk) {
    Set<String> faceNames = new TreeSet<>();
    Set<String> found = new TreeSet<>();
    for (Method method : desk.getDeclaredMethods()) {
      if (!Modifier.isPrivate(method.getModifiers()) && !method.isSynthetic()) {
        Expect.same(method + " is public", method.getModifiers(), Modifier.PUBLIC);
        found.add(told(method));
        faceNames.add(method.getName());
      }
    }
    Expect.same("the methods " + found, found.equals(METHODS), true);
    for (Method method : desk.getDeclaredMethods()) {
      boolean hidden = Modifier.isPrivate(method.getModifiers());
      Expect.same(method + " has a name of its own", hidden && faceNames.contains(method.getName()), false);
    }
  }

  private static String told(Method method) {
    StringBuilder text = new StringBuilder();
    text.append(method.getReturnType().getSimpleName()).append(' ').append(method.getName()).append('(');
    String comma = "";
    for (Class<?> parameter : method.getParameterTypes()) {
      text.append(comma).append(parameter.getSimpleName());
      comma = ",";
    }
    text.append(')');
    for (Class<?> thrown : ((Executable) method).getExceptionTypes()) {
      text.append(' ').append(thrown.getSimpleName());
    }
    return text.toString();
  }

  private static void fields(Class<?> desk) {
    for (Field field : desk.getDeclaredFields()) {
      boolean constant = field.getName().equals("NONE");
      int due = Modifier.PUBLIC | Modifier.STATIC | Modifier.FINAL;
      Expect.same(field + " is hidden", constant || Modifier.isPrivate(field.getModifiers()), true);
      Expect.same(field + " is the constant", constant, field.getModifiers() == due);
      boolean state = Modifier.isStatic(field.getModifiers()) && !Modifier.isFinal(field.getModifiers());
      Expect.same(field + " is no static state", state, false);
    }
  }
}
