import java.math.BigInteger;

/** Promises 26 to 32: signs, oaths, stories, and what to ask for next. */
final class CourtTest {
  private static final Due due = new Due("CourtTest");
  private static final String SHIP = "sea 1 1;wind n 1;ship 0 0 0 9;";
  private static final String SIGNS = "sign standing 0;sign gone 3;sign left 9;sign logged 4;sign drifted 5;"
      + "sign told 4;sign told 5;sign made 0;";

  public static void main(String[] args) {
    signs();
    oaths();
    odds();
    nothingFits();
    greatest();
    lacking();
    asking();
    due.end();
  }

  private static void signs() {
    NobodySails x = new NobodySails();
    due.is(Due.BAD, x, "sign", 0, 0);
    x = Due.at(SHIP + SIGNS + "story 1 leaves 0 bars 7;story 2 bars 0;story 3 leaves 0 leaves 7;");
    long[] gains = {0, 3, 9, 4, 5, 4, 5, 0};
    for (int sign = 0; sign < 8; sign++) {
      due.is(gains[sign], x, "sign", sign, 0);
    }
    due.is(5, x, "sign", 0, 1);
    due.is(2, x, "sign", 0, 2);
    due.is(4, x, "sign", 7, 1);
    due.is(1, x, "sign", 7, 2);
    due.is(0, x, "sign", 3, 1);
    due.is(0, x, "sign", 3, 2);
    due.is(Due.BAD, x, "sign", -1, 0);
    due.is(Due.BAD, x, "sign", 8, 0);
    due.is(Due.BAD, x, "sign", 0, -1);
    due.is(Due.BAD, x, "sign", 0, 3);
  }

  private static void oaths() {
    NobodySails x = new NobodySails();
    due.is(Due.STATE, x, "oath", -1);
    due.is(Due.STATE, x, "madeUp", -1);
    x = Due.at(SHIP);
    due.is(0, x, "oath", 9);
    due.is(0, x, "madeUp", 0);
    x = Due.at(SHIP + SIGNS);
    due.is(1, x, "oath", 0);
    due.is(3, x, "oath", 3);
    due.is(0b101011, x, "oath", 4);
    due.is(0b1111011, x, "oath", 8);
    due.is(0b1111111, x, "oath", 9);
    due.is(0b11100000, x, "madeUp", 0);
    due.is(0b11100000, x, "madeUp", 3);
    due.is(0b11000000, x, "madeUp", 4);
    due.is(0b10000000, x, "madeUp", 5);
    due.is(0b10000000, x, "madeUp", 9);
    x = Due.at(SHIP + "sign made 0;sign drifted 9;");
    due.is(1, x, "madeUp", 0);
    due.is(0, x, "oath", 8);
    x = Due.at(SHIP + "sign told 9;".repeat(10));
    due.is(1023, x, "madeUp", 8);
    due.is(1023, x, "oath", 9);
    for (int g : new int[] {-1, 10}) {
      due.is(Due.BAD, x, "oath", g);
      due.is(Due.BAD, x, "madeUp", g);
    }
  }

  /** Every set of four signs, against weights told as the document tells them. */
  private static void odds() {
    String[] stories = {"lbnl", "blln", "nnnn", "lblb"};
    int[] odds = {9, 4, 1, 6};
    StringBuilder text = new StringBuilder(SHIP + "sign told 1;sign made 2;sign gone 3;sign left 4;");
    for (int k = 0; k < stories.length; k++) {
      text.append("story ").append(odds[k]);
      for (int sign = 0; sign < 4; sign++) {
        char c = stories[k].charAt(sign);
        text.append(c == 'n' ? "" : c == 'l' ? " leaves " + sign : " bars " + sign);
      }
      text.append(';');
    }
    NobodySails x = Due.at(text.toString());
    for (int seen = 0; seen < 16; seen++) {
      long[] weights = new long[4];
      long all = 0;
      int best = 0;
      for (int k = 0; k < 4; k++) {
        weights[k] = odds[k];
        for (int sign = 0; sign < 4; sign++) {
          boolean isSeen = (seen >> sign & 1) == 1;
          char c = stories[k].charAt(sign);
          weights[k] *= isSeen ? (c == 'l' ? 4 : c == 'b' ? 0 : 2) : c == 'l' ? 1 : 2;
        }
        all += weights[k];
        best = weights[k] > weights[best] ? k : best;
      }
      for (int k = 0; k < 4; k++) {
        long common = BigInteger.valueOf(weights[k]).gcd(BigInteger.valueOf(all)).longValue();
        due.is(weights[k] / common, x, "odds", k, seen, 0);
        due.is(all / common, x, "odds", k, seen, 1);
      }
      due.is(best, x, "likeliest", seen);
    }
    for (int seen : new int[] {-1, 16, 17, Integer.MIN_VALUE, Integer.MAX_VALUE}) {
      due.is(Due.BAD, x, "odds", 0, seen, 0);
      due.is(Due.BAD, x, "likeliest", seen);
      due.is(Due.BAD, x, "lacks", 0, seen, 0);
      due.is(Due.BAD, x, "next", seen);
    }
    for (int story : new int[] {-1, 4, Integer.MIN_VALUE, Integer.MAX_VALUE}) {
      due.is(Due.BAD, x, "odds", story, 0, 0);
      due.is(Due.BAD, x, "lacks", story, 0, 0);
    }
    for (int what : new int[] {-1, 2}) {
      due.is(Due.BAD, x, "odds", 0, 0, what);
      due.is(Due.BAD, x, "lacks", 0, 0, what);
    }
  }

  private static void nothingFits() {
    NobodySails x = new NobodySails();
    due.is(Due.STATE, x, "likeliest", -1);
    due.is(Due.BAD, x, "odds", 0, 0, 0);
    x = Due.at(SHIP + SIGNS);
    due.is(Due.STATE, x, "likeliest", -1);
    due.is(Due.STATE, x, "likeliest", 0);
    due.is(Due.BAD, x, "odds", 0, 0, 0);
    due.is(Due.BAD, x, "lacks", 0, 0, 0);
    x = Due.at(SHIP + SIGNS + "story 1 bars 2;story 9 bars 2;");
    for (int story = 0; story < 2; story++) {
      due.is(0, x, "odds", story, 4, 0);
      due.is(1, x, "odds", story, 4, 1);
    }
    due.is(Due.NONE, x, "likeliest", 4);
    due.is(1, x, "likeliest", 0);
    x = Due.at(SHIP + "story 3;story 3;");
    due.is(0, x, "likeliest", 0);
    due.is(Due.BAD, x, "likeliest", 1);
    due.is(1, x, "odds", 1, 0, 0);
    due.is(2, x, "odds", 1, 0, 1);
    due.is(Due.NONE, x, "next", 0);
    due.is(Due.BAD, x, "next", 1);
    x = Due.at(SHIP + "sign told 0;story 1 leaves 0;");
    due.is(0, x, "likeliest", 0);
  }

  /** Ten signs that are left and seen: 4 to the 10th against 2 to the 10th. */
  private static void greatest() {
    NobodySails x = Due.at(SHIP + "sign told 0;".repeat(10) + "story 9 leaves 0 leaves 1 leaves 2 leaves 3 leaves 4 "
        + "leaves 5 leaves 6 leaves 7 leaves 8 leaves 9;story 9;");
    due.is(1024, x, "odds", 0, 1023, 0);
    due.is(1025, x, "odds", 0, 1023, 1);
    due.is(1, x, "odds", 0, 0, 0);
    due.is(1025, x, "odds", 0, 0, 1);
    due.is(Due.BAD, x, "odds", 0, 1024, 0);
    due.is(1023, x, "lacks", 0, 0, 0);
  }

  private static void lacking() {
    NobodySails x = new NobodySails();
    due.is(Due.BAD, x, "lacks", 0, 0, 0);
    x = Due.at(SHIP + SIGNS + "story 1 leaves 0 leaves 3 bars 5 bars 7;story 1;");
    due.is(9, x, "lacks", 0, 0, 0);
    due.is(8, x, "lacks", 0, 1, 0);
    due.is(0, x, "lacks", 0, 255, 0);
    due.is(0, x, "lacks", 0, 0, 1);
    due.is(32, x, "lacks", 0, 0b111111, 1);
    due.is(160, x, "lacks", 0, 255, 1);
    due.is(0, x, "lacks", 1, 255, 0);
    due.is(0, x, "lacks", 1, 255, 1);
  }

  private static void asking() {
    NobodySails x = new NobodySails();
    due.is(Due.STATE, x, "next", -1);
    // Pairs that part: of 0 none, of 1 three, of 2 four, of 3 four, of 4 none.
    x = Due.at(SHIP + "sign told 0;sign told 0;sign told 0;sign told 0;sign told 0;"
        + "story 1 leaves 0 leaves 1 leaves 2 bars 3;story 1 leaves 0 bars 1 leaves 2 bars 3;"
        + "story 1 leaves 0 bars 1 bars 2 leaves 3;story 1 leaves 0 bars 1 bars 2 leaves 3;");
    due.is(2, x, "next", 0);
    due.is(3, x, "next", 4);
    due.is(1, x, "next", 12);
    due.is(0, x, "next", 14);
    due.is(4, x, "next", 15);
    due.is(Due.NONE, x, "next", 31);
    due.is(Due.BAD, x, "next", 32);
    x = Due.at(SHIP + "sign told 0;sign told 0;");
    due.is(0, x, "next", 0);
    due.is(1, x, "next", 1);
    due.is(Due.NONE, x, "next", 3);
  }
}
