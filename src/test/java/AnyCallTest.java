import java.lang.reflect.Method;
import java.util.Arrays;
import java.util.Comparator;
import java.util.Random;

/** Runs of any calls with any arguments: none throws, and what is refused changes nothing but status(). */
final class AnyCallTest {
  private static final Due due = new Due("AnyCallTest");
  private static final long[] EDGES = {-1, 0, 1, 2, 3, 7, 8, 9, 15, 16, 17, 31, 40, 41, 50, 100, 127, 128, 200, 511,
      600, 999, 1023, 1024, Integer.MAX_VALUE, Integer.MIN_VALUE};
  private static final String[] TEXTS = {
    "sea 3 3;wind n 1;ship 0 1 2 9;",
    "sea 16 8;wind se 9;wind n 9;wind w 9;wind s 9;land 3 3;land 4 4;ship 7 20 40 200;man 1 1;man 200 50;"
        + "sign standing 0;sign gone 1;sign left 2;sign logged 3;sign drifted 4;sign told 5;sign made 6;"
        + "story 9 leaves 0 bars 1 leaves 6;story 1 bars 0;",
    "sea 5 4;wind e 2;wind s 3;land 2 2;ship 1 0 1 60;man 5 5;sign made 9;story 1 bars 0;",
    "sea 5 4;wind e 2;wind s 3;land 2 2;ship 1 0 1 60;man 5 5;sign made 9;story 1 bars 1;",
    "sea 5 4;wind e 2;wind",
  };

  private static final Method[] CALLS = calls();

  private static Method[] calls() {
    Method[] all = Arrays.stream(NobodySails.class.getDeclaredMethods())
        .filter(m -> java.lang.reflect.Modifier.isPublic(m.getModifiers())).toArray(Method[]::new);
    // The order in which a machine tells methods is free, and a run must be the same each time.
    Arrays.sort(all, Comparator.comparing(Method::getName));
    return all;
  }

  public static void main(String[] args) {
    for (int seed = 0; seed < 300; seed++) {
      run(new Random(seed));
    }
    due.end();
  }

  private static void run(Random random) {
    NobodySails x = new NobodySails();
    for (int i = 0; i < 200; i++) {
      if (random.nextInt(12) == 0) {
        Due.feed(x, TEXTS[random.nextInt(TEXTS.length)]);
        x.sea();
        x.put(random.nextInt(3), random.nextInt(3), random.nextInt(9));
      }
      oneCall(x, random);
    }
  }

  private static void oneCall(NobodySails x, Random random) {
    Method m = CALLS[random.nextInt(CALLS.length)];
    long[] arguments = new long[m.getParameterCount()];
    for (int i = 0; i < arguments.length; i++) {
      arguments[i] = random.nextInt(3) == 0 ? EDGES[random.nextInt(EDGES.length)] : random.nextInt(6);
    }
    boolean copied = m.getName().equals("ask") || m.getName().equals("sea");
    String before = copied ? "" : seen(x);
    int status = x.status();
    long answer = Due.call(x, m.getName(), arguments);
    String call = Due.describe(m.getName(), arguments);
    if (answer >= Due.NOT) {
      return;
    }
    if (!copied) {
      due.same(call + " leaves all", seen(x), before);
    }
    boolean found = answer < Due.NOT - 10 && answer > Due.NOT - 16;
    due.same(call + " leaves status()", x.status(), found ? Due.NOT - 10 - answer : status);
  }

  private static String seen(NobodySails x) {
    StringBuilder text = new StringBuilder();
    for (int what = 0; what <= 8; what++) {
      text.append(x.count(what)).append(' ').append(x.ship(what)).append(' ');
    }
    for (int sign = 0; sign < 10; sign++) {
      text.append(x.kind(sign)).append(x.sign(sign, 0)).append(x.sign(sign, 1)).append(x.sign(sign, 2)).append(' ');
    }
    for (int i = 0; i < 16; i++) {
      text.append(x.trace(i)).append(' ');
    }
    text.append(x.fault()).append(' ').append(x.odds(0, 0, 1)).append(' ').append(x.could(0, 1)).append(' ');
    return text.append(x.leave(5, 5, 0)).append(' ').append(x.deep(0)).append(' ').append(x.seemed(200, 0, 1)).toString();
  }
}
