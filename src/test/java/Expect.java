/** What the tests share: they name each answer that is not the one that is due, and end with exit code 1. */
final class Expect {
  static final Class<?> ARGUMENT = IllegalArgumentException.class;
  static final Class<?> INDEX = IndexOutOfBoundsException.class;
  static final Class<?> STATE = IllegalStateException.class;

  private static int checked = 0;
  private static int wrong = 0;

  private Expect() {
  }

  static void same(String what, long got, long due) {
    checked++;
    if (got != due) {
      wrong++;
      System.out.println(what + ": answered " + got + ", due is " + due);
    }
  }

  static void same(String what, boolean got, boolean due) {
    same(what, got ? 1 : 0, due ? 1 : 0);
  }

  /** The exception's very class counts, as the machine's own exceptions are subclasses of some. */
  static void fails(String what, Class<?> due, Runnable call) {
    checked++;
    Class<?> got = thrownBy(call);
    if (got != due) {
      wrong++;
      System.out.println(what + ": threw " + got + ", due is " + due);
    }
  }

  static Class<?> thrownBy(Runnable call) {
    try {
      call.run();
      return null;
    } catch (RuntimeException e) {
      return e.getClass();
    }
  }

  static void end(String name) {
    System.out.println(name + ": " + checked + " checks, " + wrong + " wrong");
    if (wrong != 0 || checked == 0) {
      System.exit(1);
    }
  }
}
