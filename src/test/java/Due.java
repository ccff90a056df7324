import java.lang.reflect.InvocationTargetException;
import java.lang.reflect.Method;
import java.nio.charset.StandardCharsets;
import java.util.IdentityHashMap;
import java.util.Map;

/** Compares answers with what is due, and ends a test with exit code 1 if one was wrong. */
final class Due {
  static final long NOT = NobodySails.NOT;
  static final long NONE = NobodySails.NONE;
  static final long BAD = NOT - 1;
  static final long STATE = NOT - 2;
  static final long FULL = NOT - 3;
  static final long NULL = NOT - 11;
  static final long PLACE = NOT - 12;
  static final long KIND = NOT - 13;
  static final long SIZE = NOT - 14;
  static final long STORE = NOT - 15;

  private static final int MOST_CALLS = 512;
  private static final Map<NobodySails, Integer> CALLS = new IdentityHashMap<>();

  private final String name;
  private int compared;
  private int wrong;
  private String sentence = "";

  Due(String name) {
    this.name = name;
  }

  /** What is compared from now on belongs to a sentence, which is told with what is wrong. */
  void belongsTo(String words) {
    sentence = words.isEmpty() ? "" : " (\"" + words + "\")";
  }

  int compared() {
    return compared;
  }

  /** The call must answer what is due; tells the answer. */
  long is(long want, NobodySails x, String method, long... arguments) {
    long got = call(x, method, arguments);
    same(describe(method, arguments), got, want);
    return got;
  }

  void same(String what, long got, long want) {
    compared++;
    if (got != want) {
      wrong++;
      System.out.println(name + ": " + what + " answered " + got + ", due is " + want + sentence);
    }
  }

  void same(String what, String got, String want) {
    compared++;
    if (!got.equals(want)) {
      wrong++;
      System.out.println(name + ": " + what + " is " + got + ", due is " + want + sentence);
    }
  }

  /** The text must be refused at a place with a fault. */
  void faulty(NobodySails x, int fault, int place, String text) {
    feed(x, text);
    count(x, 3);
    same("sea() of \"" + text + "\"", x.sea(), NOT - 100 - place);
    same("fault() of \"" + text + "\"", x.fault(), fault);
    same("count(7) behind it", x.count(7), 0);
  }

  void reads(NobodySails x, long stories, String text) {
    feed(x, text);
    count(x, 1);
    same("sea() of \"" + text + "\"", x.sea(), stories);
  }

  void end() {
    System.out.println(name + ": " + compared + " compared, " + wrong + " wrong");
    if (wrong != 0 || compared == 0) {
      System.exit(1);
    }
  }

  /** Nothing is promised of an object after its 512th call, so a test makes no more of them. */
  private static void count(NobodySails x, int calls) {
    if (CALLS.merge(x, calls, Integer::sum) > MOST_CALLS) {
      throw new IllegalStateException("a test calls one object more than " + MOST_CALLS + " times");
    }
  }

  static void feed(NobodySails x, String text) {
    byte[] bytes = text.getBytes(StandardCharsets.ISO_8859_1);
    count(x, (bytes.length + 7) / 8);
    for (int i = 0; i < bytes.length; i += 8) {
      int n = Math.min(8, bytes.length - i);
      long w = 0;
      for (int k = 0; k < n; k++) {
        w = w << 8 | bytes[i + k] & 255;
      }
      x.feed(w, n);
    }
  }

  /** A new object that has read a text. */
  static NobodySails at(String text) {
    NobodySails x = new NobodySails();
    feed(x, text);
    count(x, 1);
    if (x.sea() <= NOT) {
      throw new IllegalStateException("fault " + x.fault() + " in " + text);
    }
    return x;
  }

  static long call(NobodySails x, String method, long... arguments) {
    count(x, 1);
    for (Method m : NobodySails.class.getDeclaredMethods()) {
      if (m.getName().equals(method) && m.getParameterCount() == arguments.length) {
        Class<?>[] types = m.getParameterTypes();
        Object[] given = new Object[arguments.length];
        for (int i = 0; i < given.length; i++) {
          given[i] = types[i] == int.class ? (Object) (int) arguments[i] : (Object) arguments[i];
        }
        try {
          return ((Number) m.invoke(x, given)).longValue();
        } catch (IllegalAccessException | InvocationTargetException e) {
          throw new IllegalStateException(describe(method, arguments), e);
        }
      }
    }
    throw new IllegalStateException("no such call: " + describe(method, arguments));
  }

  static String describe(String method, long... arguments) {
    StringBuilder text = new StringBuilder(method).append('(');
    for (int i = 0; i < arguments.length; i++) {
      text.append(i == 0 ? "" : ", ").append(arguments[i]);
    }
    return text.append(')').toString();
  }
}
