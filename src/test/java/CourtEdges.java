/** Promises 26 to 32, with the terms of OATH, WEIGHT, ASK and MADE UP, sentence by sentence. */
final class CourtEdges {
  private static final int MIN = Integer.MIN_VALUE;
  private static final int MAX = Integer.MAX_VALUE;
  private static final String SHIP = "sea 1 1;wind n 1;ship 0 0 0 9;";
  private static final String KINDS = SHIP + "sign standing 0;sign gone 3;sign left 9;sign logged 4;sign drifted 5;"
      + "sign told 4;sign told 5;sign made 0;sign made 9;";
  /** Of sign 0: left by story 0, barred by 1; story 2 has no say; of sign 1 none has one. */
  private static final String THREE = SHIP + "sign told 1;sign gone 1;story 1 leaves 0;story 1 bars 0;story 1;";
  private static final long[] NO_GAIN = {-1, 10, MIN, MAX};
  private static final long[] NO_ONE = {-1, 2, MIN, MAX};

  private final Sentences s;

  private CourtEdges(Sentences s) {
    this.s = s;
  }

  static void all(Sentences s) {
    CourtEdges edges = new CourtEdges(s);
    edges.oath();
    edges.madeUp();
    edges.weights();
    edges.oddsOfStories();
    edges.likeliestTerms();
    edges.askTerms();
    edges.sign();
    edges.odds();
    edges.likeliest();
    edges.lacks();
    edges.next();
  }

  private void oath() {
    s.says(Sentences.TERMS, "OATH by g: SIGNS that are not MADE, with a GAIN of g or less.");
    s.at(KINDS);
    s.is(0b000000001, "oath", 0);
    s.is(0b000000001, "oath", 2);
    s.is(0b000000011, "oath", 3);
    s.is(0b000101011, "oath", 4);
    s.is(0b001111011, "oath", 5);
    s.is(0b001111111, "oath", 9);

    s.says(27, "OATH by g (0 to 9; bits).");
    s.is(1, "oath", 0);
    s.is(127, "oath", 9);
    s.at(SHIP);
    s.is(0, "oath", 0);
    s.is(0, "oath", 9);
    s.at(SHIP + "sign left 0;".repeat(10));
    s.is(1023, "oath", 0);

    s.says(27, "BAD;");
    s.badAt(0, NO_GAIN, "oath", 0);

    s.says(27, "STATE: no SEA (ahead of BAD).");
    s.anew();
    s.is(Due.STATE, "oath", 0);
    s.is(Due.STATE, "oath", 10);
    s.is(Due.STATE, "oath", -1);
  }

  private void madeUp() {
    s.says(Sentences.TERMS, "MADE UP by g: SIGNS that are MADE, or of KIND TOLD with a GAIN above g.");
    s.at(KINDS);
    s.is(0b111100000, "madeUp", 0);
    s.is(0b111100000, "madeUp", 3);
    s.is(0b111000000, "madeUp", 4);
    s.is(0b110000000, "madeUp", 5);
    s.is(0b110000000, "madeUp", 9);

    s.says(28, "MADE UP by g (0 to 9; bits).");
    s.is(0b111100000, "madeUp", 0);
    s.is(0b110000000, "madeUp", 9);
    s.at(SHIP);
    s.is(0, "madeUp", 0);
    s.at(SHIP + "sign told 9;".repeat(10));
    s.is(1023, "madeUp", 8);
    s.is(0, "madeUp", 9);

    s.says(28, "BAD;");
    s.badAt(0, NO_GAIN, "madeUp", 0);

    s.says(28, "STATE: no SEA (ahead of BAD).");
    s.anew();
    s.is(Due.STATE, "madeUp", 0);
    s.is(Due.STATE, "madeUp", 10);
    s.is(Due.STATE, "madeUp", -1);
  }

  /** ODDS of each STORY, above and below. */
  private void stories(int seen, long... fractions) {
    for (int story = 0; story < fractions.length / 2; story++) {
      s.is(fractions[2 * story], "odds", story, seen, 0);
      s.is(fractions[2 * story + 1], "odds", story, seen, 1);
    }
  }

  private void weights() {
    s.says(Sentences.TERMS, "WEIGHT of a STORY by a set of SIGNS that were seen: its ODDS,");
    s.at(SHIP + "story 9;story 1;story 5;");
    stories(0, 3, 5, 1, 15, 1, 3);

    s.says(Sentences.TERMS, "and over all SIGNS: seen: times 4, if it LEAVES it, times 0, if it BARS it, times 2 else;");
    s.at(THREE);
    stories(1, 2, 3, 0, 1, 1, 3);
    stories(3, 2, 3, 0, 1, 1, 3);

    s.says(Sentences.TERMS, "not seen: times 1, if it LEAVES it, times 2 else.");
    stories(0, 1, 5, 2, 5, 2, 5);
    stories(2, 1, 5, 2, 5, 2, 5);
  }

  private void oddsOfStories() {
    s.says(Sentences.TERMS, "ODDS of a STORY: WEIGHT by those of all STORIES: a fraction (all 0: 0 by 1).");
    s.at(SHIP + "sign told 1;sign gone 1;story 3 bars 0;story 9 bars 0 leaves 1;");
    stories(1, 0, 1, 0, 1);
    stories(3, 0, 1, 0, 1);
    stories(0, 2, 5, 3, 5);
    stories(2, 1, 7, 6, 7);
    s.at(SHIP + "story 7;");
    stories(0, 1, 1);
    // The greatest weights: 9 by 4 to the 10th, beside 9 by 2 to the 10th.
    StringBuilder all = new StringBuilder(SHIP + "sign told 0;".repeat(10) + "story 9;story 9");
    for (int sign = 0; sign < 10; sign++) {
      all.append(" leaves ").append(sign);
    }
    s.at(all + ";");
    stories(1023, 1, 1025, 1024, 1025);
    stories(0, 1024, 1025, 1, 1025);
  }

  private void likeliestTerms() {
    s.says(Sentences.TERMS, "LIKELIEST: the greatest, of several the least;");
    s.at(THREE);
    s.is(0, "likeliest", 1);
    s.is(1, "likeliest", 0);
    s.at(SHIP + "story 3;story 3;story 3;");
    s.is(0, "likeliest", 0);
    s.at(SHIP + "story 3;story 4;story 4;");
    s.is(1, "likeliest", 0);
    s.at(SHIP + "story 1;".repeat(5) + "story 2;");
    s.is(5, "likeliest", 0);
    // The least weight there is: 1.
    s.at(SHIP + "sign told 0;story 1 leaves 0;");
    s.is(0, "likeliest", 0);

    s.says(Sentences.TERMS, "NONE: all 0.");
    s.at(SHIP + "sign told 0;story 3 bars 0;story 9 bars 0;");
    s.is(Due.NONE, "likeliest", 1);
    s.is(1, "likeliest", 0);
  }

  private void askTerms() {
    s.says(Sentences.TERMS, "ASK: of SIGNS not in a set that for which most pairs of STORIES part "
        + "(one LEAVES it, the other BARS it),");
    // Pairs: of sign 0 none (all leave it), of 1 three, of 2 four, of 3 none (all bar it), of 4 five.
    s.at(SHIP + "sign told 0;".repeat(5) + "story 1 leaves 0 leaves 1 leaves 2 bars 3 leaves 4;"
        + "story 1 leaves 0 bars 1 leaves 2 bars 3 bars 4;story 1 leaves 0 bars 1 bars 2 bars 3 bars 4;"
        + "story 1 leaves 0 bars 1 bars 2 bars 3 bars 4;story 1 leaves 0 bars 3 bars 4;story 1 leaves 0 bars 3 bars 4;");
    s.is(4, "next", 0);
    s.is(2, "next", 0b10000);
    s.is(1, "next", 0b10100);
    s.is(0, "next", 0b10110);
    s.is(3, "next", 0b10111);
    s.is(4, "next", 0b01111);

    s.says(Sentences.TERMS, "of several the least; NONE: all are in it.");
    s.is(Due.NONE, "next", 0b11111);
    s.at(SHIP + "sign told 0;".repeat(10));
    s.is(0, "next", 0);
    s.is(1, "next", 1);
    s.is(9, "next", 511);
    s.is(Due.NONE, "next", 1023);
    s.at(SHIP + "sign told 0;".repeat(3) + "story 1 leaves 2 leaves 1;story 1 bars 1 bars 2;");
    s.is(1, "next", 0);
    s.is(2, "next", 2);
    s.is(0, "next", 6);
    s.at(SHIP);
    s.is(Due.NONE, "next", 0);
  }

  private void sign() {
    s.says(26, "A SIGN's GAIN (what = 0), STORIES (bits) that LEAVE it (1), that BAR it (2).");
    s.at(SHIP + "sign told 9;".repeat(9) + "sign gone 0;story 1 leaves 0 leaves 9;story 1 bars 0;story 1;story 1;story 1;"
        + "story 1 leaves 0 bars 9;");
    s.is(9, "sign", 0, 0);
    s.is(0b100001, "sign", 0, 1);
    s.is(0b000010, "sign", 0, 2);
    s.is(0, "sign", 9, 0);
    s.is(0b000001, "sign", 9, 1);
    s.is(0b100000, "sign", 9, 2);
    s.is(0, "sign", 5, 1);
    s.is(0, "sign", 5, 2);

    s.says(26, "BAD.");
    s.badAt(0, new long[] {-1, 10, 32, MIN, MAX}, "sign", 0, 0);
    s.badAt(1, new long[] {-1, 3, MIN, MAX}, "sign", 0, 0);
    s.at(THREE);
    s.bad("sign", 2, 1);
    s.at(SHIP);
    s.bad("sign", 0, 0);
    s.anew();
    s.bad("sign", 0, 0);
  }

  private void odds() {
    s.says(29, "ODDS of a STORY by a set of SIGNS seen: above (what = 0), below (1).");
    s.at(THREE);
    stories(1, 2, 3, 0, 1, 1, 3);
    stories(0, 1, 5, 2, 5, 2, 5);

    s.says(29, "BAD.");
    s.badAt(0, new long[] {-1, 3, 4, MIN, MAX}, "odds", 0, 0, 0);
    s.badAt(1, new long[] {-1, 4, 5, 1024, MIN, MAX}, "odds", 0, 0, 0);
    s.badAt(2, NO_ONE, "odds", 0, 0, 0);
    s.at(KINDS);
    s.bad("odds", 0, 0, 0);
    s.at(SHIP + "story 1;");
    s.bad("odds", 0, 1, 0);
    s.anew();
    s.bad("odds", 0, 0, 0);
    s.bad("odds", 0, 0, 1);
  }

  private void likeliest() {
    s.says(30, "LIKELIEST STORY by a set seen; NONE.");
    s.at(THREE);
    s.is(0, "likeliest", 1);
    s.is(0, "likeliest", 3);
    s.is(1, "likeliest", 2);
    s.at(SHIP + "sign told 0;story 9 bars 0;");
    s.is(Due.NONE, "likeliest", 1);

    s.says(30, "BAD;");
    s.badAt(0, new long[] {-1, 2, 3, 1024, MIN, MAX}, "likeliest", 0);
    s.at(SHIP + "sign told 0;".repeat(10) + "story 1;");
    s.is(0, "likeliest", 1023);
    s.bad("likeliest", 1024);

    s.says(30, "STATE: no STORIES (ahead of BAD).");
    s.at(KINDS);
    s.is(Due.STATE, "likeliest", 0);
    s.is(Due.STATE, "likeliest", -1);
    s.anew();
    s.is(Due.STATE, "likeliest", 0);
    s.is(Due.STATE, "likeliest", 1);
  }

  private void lacks() {
    s.says(31, "SIGNS (bits) that a STORY should have left and that were not seen (what = 0), "
        + "that it can't have and were (1).");
    s.at(KINDS + "story 1 leaves 0 leaves 3 bars 5 bars 8;story 1;");
    s.is(0b000001001, "lacks", 0, 0, 0);
    s.is(0b000001000, "lacks", 0, 1, 0);
    s.is(0, "lacks", 0, 9, 0);
    s.is(0, "lacks", 0, 511, 0);
    s.is(0, "lacks", 0, 0, 1);
    s.is(0b000100000, "lacks", 0, 0b000101001, 1);
    s.is(0b100100000, "lacks", 0, 511, 1);
    s.is(0, "lacks", 1, 0, 0);
    s.is(0, "lacks", 1, 511, 1);

    s.says(31, "BAD.");
    s.badAt(0, new long[] {-1, 2, MIN, MAX}, "lacks", 0, 0, 0);
    s.badAt(1, new long[] {-1, 512, 513, MIN, MAX}, "lacks", 0, 0, 0);
    s.badAt(2, NO_ONE, "lacks", 0, 0, 0);
    s.at(KINDS);
    s.bad("lacks", 0, 0, 0);
    s.anew();
    s.bad("lacks", 0, 0, 0);
  }

  private void next() {
    s.says(32, "ASK beside a set of SIGNS; NONE.");
    s.at(THREE);
    s.is(0, "next", 0);
    s.is(1, "next", 1);
    s.is(0, "next", 2);
    s.is(Due.NONE, "next", 3);

    s.says(32, "BAD;");
    s.badAt(0, new long[] {-1, 4, 5, 1024, MIN, MAX}, "next", 0);
    s.at(SHIP);
    s.bad("next", 1);

    s.says(32, "STATE: no SEA (ahead of BAD).");
    s.anew();
    s.is(Due.STATE, "next", 0);
    s.is(Due.STATE, "next", -1);
    s.is(Due.STATE, "next", 1);
  }
}
