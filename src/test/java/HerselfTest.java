import java.math.BigInteger;

/** Promises 14 to 18: by herself, against every row of winds gone through one by one. */
final class HerselfTest {
  private static final Due due = new Due("HerselfTest");
  private static final String[] WAYS = {"n", "ne", "e", "se", "s", "sw", "w", "nw"};

  /** A small sea of the test's own, in which all rows of winds are gone through. */
  private static final class Plain {
    int wide;
    int high;
    int heading;
    int[] ways;
    int[] odds;
    boolean[] land = new boolean[128];
    long[] weights = new long[128];
    long[] rows = new long[128];

    String text() {
      StringBuilder text = new StringBuilder("sea " + wide + " " + high + ";");
      for (int i = 0; i < ways.length; i++) {
        text.append("wind ").append(WAYS[ways[i]]).append(' ').append(odds[i]).append(';');
      }
      for (int cell = 0; cell < 128; cell++) {
        if (land[cell]) {
          text.append("land ").append(cell % 16).append(' ').append(cell / 16).append(';');
        }
      }
      // She would sink in the first hour, if WATER had a say in this.
      return text.append("ship ").append(heading).append(" 20 0 1;").toString();
    }

    long total() {
      long sum = 0;
      for (int o : odds) {
        sum += o;
      }
      return sum;
    }

    void enumerate(int from, int h, int n) {
      weights = new long[128];
      rows = new long[128];
      blow(from % 16, from / 16, h, n, 1);
    }

    private void blow(int x, int y, int h, int n, long weight) {
      if (n == 0) {
        weights[x + 16 * y] += weight;
        rows[x + 16 * y]++;
        return;
      }
      for (int i = 0; i < ways.length; i++) {
        int nx = x;
        int ny = y;
        if (!land[x + 16 * y]) {
          String way = WAYS[(ways[i] + h) % 8];
          nx += way.contains("e") ? 1 : way.contains("w") ? -1 : 0;
          ny += way.contains("s") ? 1 : way.contains("n") ? -1 : 0;
          if (nx < 0 || ny < 0 || nx >= wide || ny >= high) {
            nx = x;
            ny = y;
          }
        }
        blow(nx, ny, h, n - 1, weight * odds[i]);
      }
    }
  }

  private static final Plain[] SEAS = {
    sea(3, 3, 0, new int[] {0}, new int[] {1}),
    sea(1, 1, 3, new int[] {0, 2, 4, 6}, new int[] {9, 9, 9, 9}),
    sea(5, 4, 1, new int[] {2, 4, 7}, new int[] {5, 2, 3}, 18, 35, 3),
    sea(16, 8, 6, new int[] {2, 6}, new int[] {1, 1}, 5),
    sea(4, 5, 7, new int[] {1, 1, 5}, new int[] {2, 4, 6}, 33),
    sea(6, 6, 2, new int[] {0, 3, 5, 6}, new int[] {9, 9, 9, 9}, 20, 52, 67),
  };

  private static Plain sea(int wide, int high, int heading, int[] ways, int[] odds, int... land) {
    Plain p = new Plain();
    p.wide = wide;
    p.high = high;
    p.heading = heading;
    p.ways = ways;
    p.odds = odds;
    for (int cell : land) {
      p.land[cell] = true;
    }
    return p;
  }

  public static void main(String[] args) {
    for (Plain p : SEAS) {
      int from = p.wide > 2 ? 17 : 0;
      for (int h : new int[] {0, 3, 7}) {
        for (int n = 0; n <= 8; n += n < 4 ? 1 : 4) {
          brings(p, from, h, n);
        }
      }
      leaves(p, from);
    }
    refused();
    due.end();
  }

  private static void brings(Plain p, int from, int h, int n) {
    NobodySails x = Due.at(p.text());
    p.enumerate(from, h, n);
    long all = BigInteger.valueOf(p.total()).pow(n).longValueExact();
    int likeliest = 0;
    for (int to = 0; to < 128; to++) {
      if (to % 16 >= p.wide || to / 16 >= p.high) {
        due.is(Due.BAD, x, "herself", from, to, h, n, 0);
        continue;
      }
      fraction(p.weights[to], all, x, "herself", from, to, h, n, 0);
      due.is(p.rows[to], x, "herself", from, to, h, n, 2);
      likeliest = p.weights[to] > p.weights[likeliest] ? to : likeliest;
    }
    due.is(likeliest, x, "boat", from, h, n);
  }

  private static void leaves(Plain p, int from) {
    long[][] odds = new long[9][];
    for (int n = 0; n <= 8; n++) {
      p.enumerate(from, p.heading, n);
      odds[n] = p.weights;
    }
    for (int to = 0; to < 128; to++) {
      NobodySails x = Due.at(p.text());
      if (to % 16 >= p.wide || to / 16 >= p.high) {
        due.is(Due.BAD, x, "could", from, to);
        due.is(Due.BAD, x, "leftAt", 1, from, to);
        due.is(Due.BAD, x, "leftOdds", 1, from, to, 0, 0);
        continue;
      }
      int could = 0;
      for (int n = 0; n <= 8; n++) {
        could |= odds[n][to] > 0 ? 1 << n : 0;
      }
      due.is(could, x, "could", from, to);
      for (int set : new int[] {511, 1, 256, 85, 170, 60, 7}) {
        leavesBy(x, p, odds, set, from, to);
      }
    }
  }

  private static void leavesBy(NobodySails x, Plain p, long[][] odds, int set, int from, int to) {
    BigInteger total = BigInteger.valueOf(p.total());
    BigInteger[] each = new BigInteger[9];
    BigInteger all = BigInteger.ZERO;
    long likeliest = Due.NONE;
    for (int n = 0; n <= 8; n++) {
      each[n] = (set >> n & 1) == 0 ? BigInteger.ZERO : BigInteger.valueOf(odds[n][to]).multiply(total.pow(20 - n));
      all = all.add(each[n]);
      if (each[n].signum() > 0 && (likeliest == Due.NONE || each[n].compareTo(each[(int) likeliest]) > 0)) {
        likeliest = n;
      }
    }
    due.is(likeliest, x, "leftAt", set, from, to);
    for (int n = 0; n <= 8; n++) {
      if ((set >> n & 1) == 0) {
        due.is(Due.BAD, x, "leftOdds", set, from, to, n, 0);
      } else if (all.signum() == 0) {
        due.is(Due.NONE, x, "leftOdds", set, from, to, n, 0);
        due.is(Due.NONE, x, "leftOdds", set, from, to, n, 1);
      } else {
        BigInteger common = each[n].gcd(all);
        due.is(each[n].divide(common).longValueExact(), x, "leftOdds", set, from, to, n, 0);
        due.is(all.divide(common).longValueExact(), x, "leftOdds", set, from, to, n, 1);
      }
    }
  }

  private static void fraction(long above, long below, NobodySails x, String method, long... arguments) {
    BigInteger a = BigInteger.valueOf(above);
    BigInteger b = BigInteger.valueOf(below);
    BigInteger common = a.gcd(b);
    arguments[arguments.length - 1] = 0;
    due.is(a.divide(common).longValueExact(), x, method, arguments);
    arguments[arguments.length - 1] = 1;
    due.is(b.divide(common).longValueExact(), x, method, arguments);
  }

  private static void refused() {
    NobodySails none = new NobodySails();
    due.is(Due.BAD, none, "herself", 0, 0, 0, 0, 0);
    due.is(Due.BAD, none, "could", 0, 0);
    due.is(Due.BAD, none, "leftAt", 1, 0, 0);
    due.is(Due.BAD, none, "leftOdds", 1, 0, 0, 0, 0);
    due.is(Due.BAD, none, "boat", 0, 0, 0);
    NobodySails x = Due.at("sea 3 2;wind e 1;land 2 0;ship 0 0 0 9;");
    for (int cell : new int[] {-1, 2, 3, 19, 32, 128, 144, Integer.MIN_VALUE, Integer.MAX_VALUE}) {
      due.is(Due.BAD, x, "herself", cell, 0, 0, 0, 0);
      due.is(Due.BAD, x, "could", cell, 0);
      due.is(Due.BAD, x, "leftAt", 1, cell, 0);
      due.is(Due.BAD, x, "leftOdds", 1, cell, 0, 0, 0);
      due.is(Due.BAD, x, "boat", cell, 0, 0);
      if (cell != 2) {
        due.is(Due.BAD, x, "herself", 0, cell, 0, 0, 0);
        due.is(Due.BAD, x, "could", 0, cell);
        due.is(Due.BAD, x, "leftAt", 1, 0, cell);
        due.is(Due.BAD, x, "leftOdds", 1, 0, cell, 0, 0);
      }
    }
    due.is(1, x, "herself", 0, 2, 0, 2, 0);
    due.is(1, x, "boat", 0, 0, 1);
    due.is(16, x, "boat", 0, 2, 1);
    due.is(17, x, "boat", 17, 0, 0);
    due.is(508, x, "could", 0, 2);
    for (int h : new int[] {-1, 8}) {
      due.is(Due.BAD, x, "herself", 0, 0, h, 0, 0);
      due.is(Due.BAD, x, "boat", 0, h, 0);
    }
    for (int n : new int[] {-1, 9, 31, 32, 64, Integer.MIN_VALUE, Integer.MAX_VALUE}) {
      due.is(Due.BAD, x, "herself", 0, 0, 0, n, 0);
      due.is(Due.BAD, x, "boat", 0, 0, n);
      due.is(Due.BAD, x, "leftOdds", 511, 0, 0, n, 0);
    }
    for (int set : new int[] {0, 512, 513, -1, Integer.MIN_VALUE}) {
      due.is(Due.BAD, x, "leftAt", set, 0, 0);
      due.is(Due.BAD, x, "leftOdds", set, 0, 0, 0, 0);
    }
    due.is(Due.BAD, x, "herself", 0, 0, 0, 0, -1);
    due.is(Due.BAD, x, "herself", 0, 0, 0, 0, 3);
    due.is(Due.BAD, x, "leftOdds", 1, 0, 0, 0, -1);
    due.is(Due.BAD, x, "leftOdds", 1, 0, 0, 0, 2);
    // HEAD as the ship has it, from head() on.
    x.head(2);
    due.is(0, x, "could", 0, 2);
    due.is(510, x, "could", 0, 16);
    due.is(1, x, "leftAt", 511, 0, 16);
    due.is(Due.NONE, x, "leftAt", 511, 0, 1);
    due.is(8, x, "leftOdds", 511, 0, 16, 1, 1);
  }
}
