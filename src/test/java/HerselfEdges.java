/** Promises 14 to 18, with the terms of HERSELF, COULD and LEFT AT, sentence by sentence. */
final class HerselfEdges {
  private static final int MIN = Integer.MIN_VALUE;
  private static final int MAX = Integer.MAX_VALUE;
  /** East with odds of 1, west with odds of 2, by 3; she would sink at once, if WATER had a say here. */
  private static final String LINE = "sea 5 1;wind e 1;wind w 2;ship 0 20 0 1;";
  private static final String LAND = "sea 5 1;wind e 1;wind w 2;land 3 0;ship 0 20 0 1;";
  private static final long[] NO_CELL = {-1, 5, 15, 16, 21, 127, 128, MIN, MAX};
  private static final long[] NO_HOURS = {-1, 9, 10, 32, MIN, MAX};
  private static final long[] NO_HEAD = {-1, 8, 16, MIN, MAX};
  private static final long[] NO_SET = {-1, 0, 512, 513, 1024, MIN, MAX};

  private final Sentences s;

  private HerselfEdges(Sentences s) {
    this.s = s;
  }

  static void all(Sentences s) {
    HerselfEdges edges = new HerselfEdges(s);
    edges.fractions();
    edges.windsAsTheyCome();
    edges.rowsOfWinds();
    edges.termsOfHours();
    edges.herself();
    edges.could();
    edges.leftAt();
    edges.leftOdds();
    edges.boat();
  }

  /** Odds of a cell as a fraction, and in how many ways. */
  private void odds(long above, long below, long ways, int from, int to, int h, int n) {
    s.is(above, "herself", from, to, h, n, 0);
    s.is(below, "herself", from, to, h, n, 1);
    s.is(ways, "herself", from, to, h, n, 2);
  }

  private void left(long above, long below, int set, int from, int to, int n) {
    s.is(above, "leftOdds", set, from, to, n, 0);
    s.is(below, "leftOdds", set, from, to, n, 1);
  }

  private void fractions() {
    s.says(Sentences.TERMS, "but fractions, told as two numbers in lowest terms (0 is 0 by 1).");
    s.at(LINE);
    // 6 by 27, 12 by 27, 8 by 27, none at all, and whole ones.
    odds(2, 9, 3, 2, 3, 0, 3);
    odds(4, 9, 3, 2, 1, 0, 3);
    odds(8, 27, 1, 2, 0, 0, 3);
    odds(0, 1, 0, 2, 2, 0, 3);
    odds(0, 1, 0, 2, 4, 0, 0);
    odds(1, 1, 1, 2, 2, 0, 0);
    left(0, 1, 3, 2, 3, 0);
    left(1, 1, 3, 2, 3, 1);
    // The greatest numbers there are: 9 to the 8th by 35 to the 8th.
    s.at("sea 16 8;wind e 9;wind w 9;wind s 9;wind n 8;ship 0 0 0 9;");
    odds(43046721L, 2251875390625L, 1, 64, 72, 0, 8);
    odds(16777216L, 2251875390625L, 1, 0, 8, 2, 8);
  }

  private void windsAsTheyCome() {
    s.says(Sentences.TERMS, "HERSELF: from a cell (no land) with HEAD h, n HOURS (0 to 8) by WINDS as they come:");
    s.at(LAND);
    s.bad("herself", 3, 3, 0, 0, 0);
    s.bad("herself", 3, 2, 0, 1, 0);
    odds(1, 1, 1, 2, 2, 0, 0);
    odds(1, 3, 1, 2, 3, 0, 1);
    odds(2, 3, 1, 2, 3, 4, 1);
    odds(2, 3, 1, 2, 1, 0, 1);
    odds(1, 3, 1, 2, 1, 4, 1);
    odds(1, 1, 2, 2, 2, 2, 1);
    odds(1, 1, 256, 2, 2, 2, 8);
    s.badAt(3, NO_HOURS, "herself", 2, 2, 0, 0, 0);
    // The ship's own HEAD, place and WATER have no say, and nothing of them changes.
    s.is(0, "head", 5);
    s.is(1, "put", 4, 0, 0);
    odds(1, 3, 1, 2, 3, 0, 1);
    s.ship(4, 0, 0, 0, 0, 0, 5);
  }

  private void rowsOfWinds() {
    s.says(Sentences.TERMS, "odds of a cell: all rows of n WINDS that bring her there (STRANDED ones, too), "
        + "each by its ODDS times one another, by all ODDS to the n.");
    s.at(LAND);
    odds(1, 3, 2, 2, 3, 0, 2);
    odds(11, 27, 5, 2, 3, 0, 3);
    odds(2, 3, 2, 2, 3, 4, 2);
    odds(0, 1, 0, 2, 4, 0, 8);
    odds(1, 9, 1, 4, 4, 0, 2);
    odds(8, 9, 3, 4, 3, 0, 2);
    // Beyond the sea she stays, as in any hour.
    s.at(LINE);
    odds(1, 9, 1, 2, 4, 0, 2);
    odds(1, 27, 1, 2, 4, 0, 3);
    odds(1, 3, 1, 4, 4, 0, 1);
    odds(1, 1, 1, 0, 0, 0, 0);

    s.says(Sentences.TERMS, "WAYS: how many rows of WINDS (by numbers).");
    s.at("sea 5 1;wind e 1;wind e 3;wind w 2;ship 0 0 0 9;");
    odds(2, 3, 2, 2, 3, 0, 1);
    odds(4, 9, 4, 2, 4, 0, 2);
    odds(4, 9, 4, 2, 2, 0, 2);
    odds(1, 9, 1, 2, 0, 0, 2);
    s.at("sea 1 1;wind e 1;wind e 1;wind e 1;wind e 1;ship 0 0 0 9;");
    odds(1, 1, 65536, 0, 0, 0, 8);
    odds(1, 1, 1, 0, 0, 0, 0);
  }

  private void termsOfHours() {
    s.says(Sentences.TERMS, "Sets are bits.");
    s.at(LINE);
    s.is(4 + 8 + 16 + 32 + 64 + 128 + 256, "could", 2, 4);
    s.is(2, "leftAt", 0b100, 2, 4);
    s.is(Due.NONE, "leftAt", 0b11, 2, 4);

    s.says(Sentences.TERMS, "COULD: which n (bits 0 .. 8) bring her from one cell to another in some way.");
    s.is(0b111111100, "could", 2, 4);
    s.is(0b111110101, "could", 2, 2);
    s.is(0b111111010, "could", 2, 3);
    s.at(LAND);
    s.is(0b111111110, "could", 2, 3);
    s.is(0, "could", 2, 4);
    s.at("sea 16 1;wind e 1;ship 0 0 0 9;");
    s.is(0b100000000, "could", 0, 8);
    s.is(0, "could", 0, 9);
    s.is(1, "could", 0, 0);
    s.is(511, "could", 15, 15);

    s.says(Sentences.TERMS, "LEFT AT: of a set of n: ODDS of each: what brings her from the one cell to the other in "
        + "n HOURS by that for all of the set, added:");
    s.at(LAND);
    // 1 by 3, 1 by 3, 11 by 27 in 1, 2, 3 HOURS.
    left(9, 29, 14, 2, 3, 1);
    left(9, 29, 14, 2, 3, 2);
    left(11, 29, 14, 2, 3, 3);
    left(1, 2, 6, 2, 3, 1);
    left(9, 20, 10, 2, 3, 1);
    left(1, 1, 8, 2, 3, 3);
    left(0, 1, 15, 2, 3, 0);

    s.says(Sentences.TERMS, "the likeliest n, of several the least;");
    s.is(3, "leftAt", 14, 2, 3);
    s.is(1, "leftAt", 6, 2, 3);
    s.is(1, "leftAt", 7, 2, 3);
    s.is(2, "leftAt", 5, 2, 3);
    s.at("sea 1 1;wind e 1;ship 0 0 0 9;");
    s.is(0, "leftAt", 511, 0, 0);
    s.is(8, "leftAt", 256, 0, 0);
    s.is(7, "leftAt", 384, 0, 0);

    s.says(Sentences.TERMS, "NONE: none does.");
    s.at(LAND);
    s.is(Due.NONE, "leftAt", 1, 2, 3);
    s.is(Due.NONE, "leftAt", 511, 2, 4);
    s.is(Due.NONE, "leftAt", 2, 2, 2);
  }

  private void herself() {
    s.says(14, "HERSELF from a cell to a cell (as one number each) in n HOURS: "
        + "above (what = 0), below (1), WAYS (2).");
    s.at("sea 3 3;wind se 1;wind e 2;ship 0 0 0 9;");
    odds(1, 9, 1, 0, 34, 0, 2);
    odds(4, 9, 2, 0, 18, 0, 2);
    odds(0, 1, 0, 0, 32, 0, 2);
    odds(1, 1, 1, 34, 34, 0, 0);
    odds(1, 1, 256, 34, 34, 0, 8);

    s.says(14, "BAD: also land as the first one, h 0 to 7.");
    s.at(LAND);
    s.badAt(0, NO_CELL, "herself", 2, 2, 0, 0, 0);
    s.badAt(1, NO_CELL, "herself", 2, 2, 0, 0, 0);
    s.badAt(2, NO_HEAD, "herself", 2, 2, 0, 0, 0);
    s.badAt(3, NO_HOURS, "herself", 2, 2, 0, 0, 0);
    s.badAt(4, new long[] {-1, 3, MIN, MAX}, "herself", 2, 2, 0, 0, 0);
    s.bad("herself", 3, 2, 0, 0, 0);
    s.bad("herself", 3, 3, 0, 0, 2);
    s.is(1, "herself", 2, 3, 7, 0, 1);
    s.is(0, "herself", 2, 3, 7, 8, 2);
    s.anew();
    s.bad("herself", 0, 0, 0, 0, 0);
    s.bad("herself", 0, 0, 0, 8, 2);
  }

  private void could() {
    s.says(15, "COULD from a cell to a cell, HEAD as the ship has it (bits).");
    s.at("sea 3 3;wind e 1;ship 2 0 0 9;");
    s.is(0b111111100, "could", 0, 32);
    s.is(0, "could", 0, 2);
    s.is(2, "head", 0);
    s.is(0, "could", 0, 32);
    s.is(0b111111100, "could", 0, 2);
    s.is(0b10, "could", 0, 1);
    s.is(1, "could", 0, 0);

    s.says(15, "BAD: also land as the first one.");
    s.at(LAND);
    s.badAt(0, NO_CELL, "could", 2, 2);
    s.badAt(1, NO_CELL, "could", 2, 2);
    s.bad("could", 3, 2);
    s.bad("could", 3, 3);
    s.is(510, "could", 2, 3);
    s.anew();
    s.bad("could", 0, 0);
  }

  private void leftAt() {
    s.says(16, "LEFT AT, of a set of n (bits 0 .. 8), from a cell to a cell, HEAD as the ship has it: the likeliest n.");
    s.at("sea 3 3;wind e 1;ship 2 0 0 9;");
    s.is(2, "leftAt", 511, 0, 32);
    s.is(3, "leftAt", 0b111111000, 0, 32);
    s.is(8, "leftAt", 256, 0, 32);
    s.is(0, "leftAt", 1, 0, 0);
    s.is(Due.NONE, "leftAt", 511, 0, 2);
    s.is(2, "head", 0);
    s.is(2, "leftAt", 511, 0, 2);
    s.is(Due.NONE, "leftAt", 511, 0, 32);

    s.says(16, "BAD: also land as the first one, no n.");
    s.at(LAND);
    s.badAt(0, NO_SET, "leftAt", 1, 2, 2);
    s.badAt(1, NO_CELL, "leftAt", 1, 2, 2);
    s.badAt(2, NO_CELL, "leftAt", 1, 2, 2);
    s.bad("leftAt", 1, 3, 2);
    s.bad("leftAt", 511, 3, 3);
    s.is(8, "leftAt", 511, 2, 3);
    s.anew();
    s.bad("leftAt", 1, 0, 0);
  }

  private void leftOdds() {
    s.says(17, "ODDS of LEFT AT n, of that set: above (what = 0), below (1);");
    s.at("sea 3 3;wind e 1;ship 2 0 0 9;");
    left(1, 7, 511, 0, 32, 2);
    left(1, 7, 511, 0, 32, 8);
    left(0, 1, 511, 0, 32, 1);
    left(0, 1, 511, 0, 32, 0);
    left(1, 1, 256, 0, 32, 8);
    s.is(2, "head", 0);
    left(1, 7, 511, 0, 2, 2);
    // She stays at once in 0 HOURS, and in 8 by 8 to the 8th of 35 to the 8th.
    s.at("sea 16 8;wind n 8;wind w 9;wind w 9;wind w 9;ship 0 0 0 9;");
    left(2251875390625L, 2251892167841L, 257, 15, 15, 0);
    left(16777216L, 2251892167841L, 257, 15, 15, 8);

    s.says(17, "NONE: none brings her there.");
    s.at(LAND);
    for (int what = 0; what < 2; what++) {
      s.is(Due.NONE, "leftOdds", 1, 2, 3, 0, what);
      s.is(Due.NONE, "leftOdds", 511, 2, 4, 8, what);
    }
    s.bad("leftOdds", 1, 2, 3, 1, 0);
    s.bad("leftOdds", 1, 2, 3, 0, 2);

    s.says(17, "BAD: also n not of the set.");
    for (int n = 0; n <= 8; n++) {
      s.bad("leftOdds", 511 & ~(1 << n), 2, 3, n, 0);
      s.bad("leftOdds", 1 << (n + 1) % 9, 2, 3, n, 1);
    }
    s.badAt(0, NO_SET, "leftOdds", 1, 2, 2, 0, 0);
    s.badAt(1, NO_CELL, "leftOdds", 1, 2, 2, 0, 0);
    s.badAt(2, NO_CELL, "leftOdds", 1, 2, 2, 0, 0);
    s.badAt(3, NO_HOURS, "leftOdds", 511, 2, 2, 0, 0);
    s.badAt(4, new long[] {-1, 2, MIN, MAX}, "leftOdds", 1, 2, 2, 0, 0);
    s.bad("leftOdds", 1, 3, 2, 0, 0);
    s.bad("leftOdds", 1, 3, 3, 0, 0);
    s.anew();
    s.bad("leftOdds", 1, 0, 0, 0, 0);
  }

  private void boat() {
    s.says(18, "The cell at which she (a boat with HEAD h) is likeliest n HOURS (0 to 8) behind from a cell, "
        + "of several the least.");
    s.at(LINE);
    s.is(2, "boat", 2, 0, 0);
    s.is(1, "boat", 2, 0, 1);
    s.is(3, "boat", 2, 4, 1);
    s.is(0, "boat", 2, 0, 2);
    s.is(2, "boat", 2, 4, 2);
    s.is(0, "boat", 0, 7, 8);
    s.is(0, "boat", 2, 0, 8);
    s.is(4, "boat", 2, 4, 8);
    s.at(LAND);
    s.is(3, "boat", 2, 4, 1);
    s.at("sea 3 3;wind e 1;wind s 1;ship 0 0 0 9;");
    s.is(1, "boat", 0, 0, 1);
    s.is(17, "boat", 0, 0, 2);
    s.is(34, "boat", 0, 0, 8);
    s.is(0, "boat", 34, 4, 8);

    s.says(18, "BAD: also land.");
    s.at(LAND);
    s.bad("boat", 3, 0, 0);
    s.bad("boat", 3, 0, 8);
    s.badAt(0, NO_CELL, "boat", 2, 0, 0);
    s.badAt(1, NO_HEAD, "boat", 2, 0, 0);
    s.badAt(2, NO_HOURS, "boat", 2, 0, 0);
    s.anew();
    s.bad("boat", 0, 0, 0);
  }
}
