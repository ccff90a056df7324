import java.lang.reflect.Method;
import java.util.Arrays;
import java.util.Comparator;
import java.util.Random;

/** Runs of any calls with any arguments: none throws, and each is answered as by the model. */
final class AnyCallTest {
  private static final Due due = new Due("AnyCallTest");
  private static final long[] EDGES = {-1, 0, 1, 2, 3, 7, 8, 9, 15, 16, 17, 31, 40, 41, 50, 100, 127, 128, 200, 511,
      600, 999, 1023, 1024, Integer.MAX_VALUE, Integer.MIN_VALUE};
  private static final String[] TEXTS = {
    "sea 3 3;wind n 1;ship 0 1 2 9;",
    "sea 16 8;wind se 9;wind n 9;wind w 9;wind s 9;land 3 3;land 4 4;ship 7 20 40 200;man 1 1;man 200 50;"
        + "sign standing 0;sign gone 1;sign left 2;sign logged 3;sign drifted 4;sign told 5;sign made 6;"
        + "story 9 leaves 0 bars 1 leaves 6;story 1 bars 0;",
    "sea 5 4;wind e 2;wind s 3;land 2 2;ship 1 0 1 60;man 5 5;sign made 9;story 1 bars 0;",
    "sea 5 4;wind e 2;wind s 3;land 2 2;ship 1 0 1 60;man 5 5;sign made 9;story 1 bars 1;",
    "sea 5 4;wind e 2;wind",
  };

  private static final Method[] CALLS = calls();

  private static Method[] calls() {
    Method[] all = Arrays.stream(NobodySails.class.getDeclaredMethods())
        .filter(m -> java.lang.reflect.Modifier.isPublic(m.getModifiers())).toArray(Method[]::new);
    // The order in which a machine tells methods is free, and a run must be the same each time.
    Arrays.sort(all, Comparator.comparing(Method::getName));
    return all;
  }

  public static void main(String[] args) {
    for (int seed = 0; seed < 300; seed++) {
      run(new Random(seed));
    }
    due.end();
  }

  private static void run(Random random) {
    NobodySails x = new NobodySails();
    Model model = new Model();
    for (int i = 0; i < 150; i++) {
      if (random.nextInt(15) == 0) {
        tell(x, model, TEXTS[random.nextInt(TEXTS.length)]);
        both(x, model, "put", random.nextInt(3), random.nextInt(3), random.nextInt(9));
      }
      Method m = CALLS[random.nextInt(CALLS.length)];
      long[] arguments = new long[m.getParameterCount()];
      for (int k = 0; k < arguments.length; k++) {
        arguments[k] = random.nextInt(3) == 0 ? EDGES[random.nextInt(EDGES.length)] : random.nextInt(6);
      }
      both(x, model, m.getName(), arguments);
    }
  }

  private static void both(NobodySails x, Model model, String name, long... arguments) {
    due.is(model.call(name, arguments), x, name, arguments);
  }

  private static void tell(NobodySails x, Model model, String text) {
    for (int i = 0; i < text.length(); i += 8) {
      int n = Math.min(8, text.length() - i);
      long w = 0;
      for (int k = 0; k < n; k++) {
        w = w << 8 | text.charAt(i + k);
      }
      both(x, model, "feed", w, n);
    }
    both(x, model, "sea");
  }
}
