import java.util.Random;

/** Runs of any calls, each answered by the class as by the model: so also what refusals leave as it was. */
final class ModelTest {
  private static final Due due = new Due("ModelTest");
  private static final int RUNS = 150;
  private static final int MOST_CALLS = 512;
  private static final String[] WAYS = {"n", "ne", "e", "se", "s", "sw", "w", "nw"};
  private static final String[] WHATS = {"standing", "gone", "left", "logged", "drifted", "told", "made"};
  private static final String[] WORDS = {"sea", "wind", "land", "ship", "man", "sign", "story", "leaves", "bars", ";",
      "0", "1", "9", "17", "201", "1000", "n", "told", "x", "Sea", ",", "\t", "\u00ff"};

  /** Each call with what its numbers are drawn from, and how often it comes. */
  private static final String[] CALLS = {
    "row r l n", "row r l n", "set r i v", "set r i w", "set r i w", "copy r i r i s", "copy r i r i s", "drop r",
    "fault", "put x y d", "put x y d", "put x y d", "head h", "head h", "sailed e 1 S", "sailed e 1 S", "blown r i t",
    "blown r i t", "blown r i t", "ship 6", "ship 6", "ship 6", "ship 6", "ship 6", "ship 6", "herself c c h 8 2",
    "herself c c h s 2", "herself c c h s 2", "could c c", "leftAt N c c", "leftOdds N c c 8 1", "boat c h 8",
    "thought m k q", "seemed p f 1", "deep p", "was p f s 1", "bang b f g g 2", "leave p s 1", "leave p f 1",
    "leastWater f", "leastWater s", "sign a 2", "sign a 2", "oath 9", "madeUp 9", "odds o z 1", "odds o z 1",
    "likeliest z", "likeliest z", "lacks o z 1", "next z", "image 1", "restore 1", "kind a", "as a 7", "as a 7",
    "ask a 1", "ask a 1", "trace 5", "trace 5", "count 8", "count 8", "status", "status", "status", "feed F 8", "sea",
  };

  private final Random random;
  private final NobodySails x = new NobodySails();
  private final Model model = new Model();
  private int calls;

  private ModelTest(int seed) {
    random = new Random(seed);
  }

  public static void main(String[] args) {
    for (int seed = 0; seed < RUNS; seed++) {
      new ModelTest(seed).run();
    }
    due.end();
  }

  private void run() {
    for (int row = 0; row < 4; row++) {
      both("row", row, row / 3, 6);
    }
    while (calls < MOST_CALLS - 80) {
      if (calls < 5 || random.nextInt(40) == 0) {
        String text = text();
        tell(random.nextInt(4) == 0 ? spoilt(text) : text);
        both("put", random.nextInt(4), random.nextInt(3), random.nextInt(9));
      }
      anyCall();
    }
  }

  private void both(String name, long... arguments) {
    calls++;
    due.is(model.call(name, arguments), x, name, arguments);
  }

  private void anyCall() {
    String[] call = CALLS[random.nextInt(CALLS.length)].split(" ");
    if ((call[0].equals("feed") || call[0].equals("sea") || call[0].equals("drop")) && random.nextInt(4) != 0) {
      return;
    }
    long[] arguments = new long[call.length - 1];
    for (int i = 0; i < arguments.length; i++) {
      arguments[i] = drawn(call[i + 1].charAt(0));
    }
    both(call[0], arguments);
  }

  private int upTo(int most) {
    return random.nextInt(most + 1);
  }

  /** A number of a sort, now and then just beside it or far off. */
  private long drawn(char sort) {
    int odd = random.nextInt(60);
    if (odd == 0) {
      return new int[] {-1, Integer.MIN_VALUE, Integer.MAX_VALUE, 1 << 20}[upTo(3)];
    }
    int[] sea = model.measures();
    long beside = odd == 1 ? 1 : odd == 2 ? -1 : 0;
    return beside + switch (sort) {
      case 'r' -> upTo(random.nextInt(9) == 0 ? 7 : 4);
      case 'l' -> upTo(random.nextInt(4) == 0 ? 2 : 0);
      case 'n' -> random.nextInt(8) == 0 ? 38 + upTo(3) : 2 + upTo(5);
      case 'i' -> upTo(5);
      case 's' -> upTo(4);
      case 't' -> 1 + upTo(3);
      case 'v' -> random.nextInt();
      case 'w' -> upTo(3);
      case 'x' -> upTo(sea[0] - 1);
      case 'y' -> upTo(sea[1] - 1);
      case 'd' -> upTo(sea[2] - 1);
      case 'h' -> upTo(7);
      case 'e' -> random.nextInt(5) == 0 ? 1 + upTo(99) : 1 + upTo(5);
      case 'S' -> 1 + upTo(999998);
      case 'c' -> upTo(sea[0] - 1) + 16 * upTo(sea[1] - 1);
      case 'N' -> 1 + upTo(510);
      case 'm' -> upTo(1998) - 999;
      case 'k' -> upTo(198) - 99;
      case 'q' -> 1 + upTo(59);
      case 'p' -> upTo(200);
      case 'f' -> upTo(50);
      case 'b' -> upTo(99);
      case 'g' -> 1 + upTo(random.nextBoolean() ? 998 : 60);
      case 'a' -> upTo(Math.max(0, sea[3] - 1));
      case 'o' -> upTo(Math.max(0, sea[4] - 1));
      case 'z' -> upTo((1 << sea[3]) - 1);
      case 'F' -> random.nextLong();
      default -> upTo(sort - '0');
    };
  }

  /** A text is fed in steps of any length, and read. */
  private void tell(String text) {
    int i = 0;
    while (i < text.length()) {
      int n = Math.min(text.length() - i, random.nextInt(6) == 0 ? 1 + upTo(7) : 8);
      long w = random.nextLong();
      for (int k = 0; k < n; k++) {
        w = w << 8 | text.charAt(i + k);
      }
      both("feed", w, n);
      i += n;
    }
    both("sea");
    both("fault");
  }

  private String text() {
    int wide = 1 + upTo(random.nextInt(4) == 0 ? 15 : 5);
    int high = 1 + upTo(random.nextInt(4) == 0 ? 7 : 3);
    StringBuilder text = new StringBuilder("sea " + wide + " " + high + ";");
    for (int k = upTo(3); k >= 0; k--) {
      text.append("wind ").append(WAYS[upTo(7)]).append(' ').append(1 + upTo(8)).append(';');
    }
    for (int k = upTo(wide * high > 6 ? 4 : 0); k > 0; k--) {
      text.append("land ").append(upTo(wide - 1)).append(' ').append(upTo(high - 1)).append(';');
    }
    text.append("ship ").append(upTo(7)).append(' ').append(upTo(random.nextInt(3) == 0 ? 20 : 3)).append(' ');
    text.append(upTo(random.nextInt(3) == 0 ? 40 : 5)).append(' ');
    text.append(1 + upTo(random.nextInt(3) == 0 ? 199 : 40)).append(';');
    for (int k = upTo(random.nextInt(3) == 0 ? 10 : 3); k > 0; k--) {
      text.append("man ").append(1 + upTo(199)).append(' ').append(1 + upTo(random.nextBoolean() ? 49 : 9)).append(';');
    }
    int signs = upTo(random.nextInt(3) == 0 ? 10 : 4);
    for (int k = signs; k > 0; k--) {
      text.append("sign ").append(WHATS[upTo(6)]).append(' ').append(upTo(9)).append(';');
    }
    for (int k = upTo(random.nextInt(3) == 0 ? 6 : 3); k > 0; k--) {
      text.append("story ").append(1 + upTo(8));
      for (int m = signs == 0 ? 0 : upTo(3); m > 0; m--) {
        text.append(random.nextBoolean() ? " leaves " : "\nbars ").append(upTo(signs - 1));
      }
      text.append(';');
    }
    return text.substring(0, Math.min(600, text.length()));
  }

  /** Something is taken out of a text, put into it, told twice, or cut off. */
  private String spoilt(String text) {
    int at = upTo(text.length() - 1);
    int end = Math.min(text.length(), at + 1 + upTo(8));
    String word = WORDS[upTo(WORDS.length - 1)];
    String spoilt = switch (upTo(5)) {
      case 0 -> text.substring(0, at) + text.substring(at + 1);
      case 1 -> text.substring(0, at) + word + text.substring(at);
      case 2 -> text.substring(0, at) + word + text.substring(end);
      case 3 -> text.substring(0, end) + text.substring(at);
      case 4 -> text.replaceFirst("(wind|land|man|sign|story)( [a-z]+)?( \\d+)+;", "$0$0$0$0$0");
      default -> text.substring(0, at);
    };
    return spoilt.substring(0, Math.min(600, spoilt.length()));
  }
}
