/** Promises 9 to 13, with the terms of CELLS and SAILED, sentence by sentence. */
final class ShipEdges {
  private static final int MIN = Integer.MIN_VALUE;
  private static final int MAX = Integer.MAX_VALUE;
  /** Of X's rest by 10: 0 to 2 east, 3 south, 4 to 7 west, 8 and 9 north. */
  private static final String TEN = "sea 16 8;wind e 3;wind s 1;wind w 4;wind n 2;ship 0 0 0 9;";
  private static final int[] EAST = {0, 1, 1, 1, 0, -1, -1, -1};
  private static final int[] SOUTH = {-1, -1, 0, 1, 1, 1, 0, -1};

  private final Sentences s;

  private ShipEdges(Sentences s) {
    this.s = s;
  }

  static void all(Sentences s) {
    ShipEdges edges = new ShipEdges(s);
    edges.cells();
    edges.hourOfWind();
    edges.water();
    edges.draws();
    edges.put();
    edges.head();
    edges.sailed();
    edges.blown();
    edges.blownRefused();
    edges.ship();
  }

  private void cells() {
    s.says(Sentences.TERMS, "CELLS: x from 0 east on, y from 0 south on,");
    s.at("sea 3 2;wind e 1;wind s 1;ship 0 0 0 9;");
    s.is(2, "row", 0, 0, 2);
    s.is(1, "set", 0, 1, 1);
    s.is(1, "put", 0, 0, 0);
    s.is(1, "blown", 0, 0, 1);
    s.ship(1, 0);
    s.is(2, "blown", 0, 1, 1);
    s.ship(1, 1);

    s.says(Sentences.TERMS, "told as x and 16 y where one number is told;");
    s.is(1, "herself", 0, 1, 0, 1, 2);
    s.is(1, "herself", 0, 16, 0, 1, 2);
    s.is(1, "herself", 2, 18, 0, 1, 2);
    s.is(0, "boat", 0, 7, 1);
    s.is(18, "boat", 18, 0, 8);
    s.badAt(0, new long[] {3, 15, 19, 32, 34, 128}, "boat", 0, 0, 1);

    s.says(Sentences.TERMS, "a WAY w goes one cell: n y less 1, e x more 1, and so on, between them both.");
    s.at("sea 3 3;wind n 1;ship 0 0 0 9;");
    for (int way = 0; way < 8; way++) {
      s.is(way == 0 ? 0 : way - 1, "head", way);
      s.is(1, "put", 1, 1, 0);
      s.is(1, "sailed", 1, 0, 1);
      s.ship(1 + EAST[way], 1 + SOUTH[way]);
    }
  }

  private void hourOfWind() {
    s.says(Sentences.TERMS, "In an HOUR with a WIND the ship goes by the WAY (that of the WIND and HEAD, rest by 8);");
    String[] ways = {"n", "ne", "e", "se", "s", "sw", "w", "nw"};
    for (int wind = 0; wind < 8; wind++) {
      s.at("sea 3 3;wind " + ways[wind] + " 1;ship 7 0 0 9;");
      for (int head = 7; head >= 0; head--) {
        s.is(Math.min(7, head + 1), "head", head);
        s.is(1, "put", 1, 1, 0);
        s.is(1, "sailed", 1, 0, 1);
        s.ship(1 + EAST[(wind + head) % 8], 1 + SOUTH[(wind + head) % 8]);
      }
    }

    s.says(Sentences.TERMS, "beyond the sea: she stays;");
    s.at("sea 4 3;wind n 1;ship 7 0 0 9;");
    int[][] corners = {{0, 0, 0b11100011}, {3, 0, 0b10001111}, {0, 2, 0b11111000}, {3, 2, 0b00111110}};
    for (int[] corner : corners) {
      for (int head = 0; head < 8; head++) {
        boolean stays = (corner[2] >> head & 1) == 1;
        s.is((head + 7) % 8, "head", head);
        s.is(1, "put", corner[0], corner[1], 0);
        s.is(1, "sailed", 1, 0, 1);
        s.ship(corner[0] + (stays ? 0 : EAST[head]), corner[1] + (stays ? 0 : SOUTH[head]), 0, 1, 0);
      }
    }
    s.at("sea 1 1;wind ne 1;ship 0 0 0 9;");
    s.is(1, "put", 0, 0, 0);
    s.is(100, "sailed", 100, 0, 1);
    s.ship(0, 0, 0, 100, 0, 0, 0);
    s.at("sea 16 8;wind e 1;ship 0 0 0 9;");
    s.is(1, "put", 15, 3, 0);
    s.is(1, "sailed", 1, 0, 1);
    s.ship(15, 3);

    s.says(Sentences.TERMS, "into land: she is STRANDED there, and goes no more.");
    s.at("sea 5 3;wind e 1;wind w 1;land 2 1;ship 0 0 0 9;");
    s.is(2, "row", 0, 0, 2);
    s.is(1, "set", 0, 1, 1);
    s.is(1, "put", 1, 1, 0);
    s.is(1, "blown", 0, 0, 1);
    s.ship(2, 1, 0, 1, 1, 0);
    s.is(2, "blown", 0, 0, 1);
    s.ship(2, 1, 0, 2, 1, 0);
    s.is(3, "blown", 0, 1, 1);
    s.ship(2, 1, 0, 3, 1, 0);
    s.is(53, "sailed", 50, 1, 3);
    s.ship(2, 1, 0, 53, 1, 0);
    s.is(1, "put", 1, 0, 0);
    s.is(1, "blown", 0, 0, 1);
    s.ship(2, 0, 0, 1, 0, 0);
  }

  private void water() {
    s.says(Sentences.TERMS, "Then WATER: LEAK more, and PUMP less, if she is manned,");
    s.at("sea 9 1;wind e 1;ship 0 5 3 50;");
    s.is(1, "put", 0, 0, 10);
    s.is(1, "sailed", 1, 0, 1);
    s.is(15, "ship", 2);
    s.is(2, "sailed", 1, 1, 1);
    s.is(17, "ship", 2);
    s.is(5, "sailed", 3, 1, 1);
    s.is(23, "ship", 2);
    // A full hold is pumped in the same hour: 49 and 5, less 6, is not DEEP.
    s.at("sea 9 1;wind e 1;ship 0 5 6 50;");
    s.is(1, "put", 0, 0, 49);
    s.is(1, "sailed", 1, 1, 1);
    s.ship(1, 0, 48, 1, 0, 0);

    s.says(Sentences.TERMS, "0 at least, DEEP at most:");
    s.at("sea 9 1;wind e 1;ship 0 3 7 50;");
    s.is(1, "put", 0, 0, 4);
    s.is(1, "sailed", 1, 1, 1);
    s.is(0, "ship", 2);
    s.is(2, "sailed", 1, 1, 1);
    s.is(0, "ship", 2);
    s.is(3, "sailed", 1, 0, 1);
    s.is(3, "ship", 2);
    s.is(1, "put", 0, 0, 3);
    s.is(1, "sailed", 1, 1, 1);
    s.is(0, "ship", 2);
    s.is(1, "put", 0, 0, 49);
    s.is(1, "sailed", 1, 0, 1);
    s.is(50, "ship", 2);

    s.says(Sentences.TERMS, "at DEEP she is SUNK: she goes no more, and WATER stays");
    s.at("sea 9 1;wind e 1;ship 0 3 7 50;");
    s.is(1, "put", 0, 0, 43);
    s.is(2, "sailed", 2, 0, 1);
    s.ship(2, 0, 49, 2, 0, 0);
    s.is(3, "sailed", 1, 0, 1);
    s.ship(3, 0, 50, 3, 0, 1);
    s.is(4, "sailed", 1, 1, 1);
    s.ship(3, 0, 50, 4, 0, 1);
    s.is(5, "sailed", 1, 0, 1);
    s.ship(3, 0, 50, 5, 0, 1);
    // At DEEP exactly, not above it alone.
    s.is(1, "put", 0, 0, 47);
    s.is(1, "sailed", 1, 0, 1);
    s.ship(1, 0, 50, 1, 0, 1);
    s.is(2, "sailed", 1, 0, 1);
    s.ship(1, 0, 50, 2, 0, 1);

    s.says(Sentences.TERMS, "(also when she is STRANDED it comes on).");
    s.at("sea 9 1;wind e 1;land 1 0;ship 0 3 2 10;");
    s.is(1, "put", 0, 0, 0);
    s.is(1, "sailed", 1, 0, 1);
    s.ship(1, 0, 3, 1, 1, 0);
    s.is(2, "sailed", 1, 0, 1);
    s.ship(1, 0, 6, 2, 1, 0);
    s.is(3, "sailed", 1, 1, 1);
    s.ship(1, 0, 7, 3, 1, 0);
    s.is(4, "sailed", 1, 0, 1);
    s.ship(1, 0, 10, 4, 1, 1);
    s.is(5, "sailed", 1, 1, 1);
    s.ship(1, 0, 10, 5, 1, 1);
    s.is(1, "put", 0, 0, 9);
    s.is(1, "sailed", 1, 0, 1);
    s.ship(1, 0, 10, 1, 1, 1);
  }

  private void draws() {
    s.says(Sentences.TERMS, "SAILED n HOURS by a SEED (1 to 999999):");
    s.at(TEN);
    s.is(1, "put", 7, 4, 0);
    s.is(1, "sailed", 1, 0, 1);
    s.is(2, "sailed", 1, 0, 999999);
    s.badAt(2, new long[] {0, -1, 1000000, MIN, MAX}, "sailed", 1, 0, 1);
    s.is(2, "ship", 3);

    s.says(Sentences.TERMS, "X is the SEED;");
    // The same SEED draws the same WIND again: 1 draws west.
    s.is(1, "put", 7, 4, 0);
    s.is(1, "sailed", 1, 0, 1);
    s.is(2, "sailed", 1, 0, 1);
    s.ship(5, 4);
    s.is(3, "sailed", 1, 0, 3);
    s.ship(6, 4);

    s.says(Sentences.TERMS, "HOUR by HOUR (also if she goes no more)");
    s.at("sea 9 1;wind e 1;land 1 0;ship 0 0 0 9;");
    s.is(1, "put", 0, 0, 0);
    s.is(100, "sailed", 100, 0, 1);
    s.ship(1, 0, 0, 100, 1, 0);
    s.is(101, "sailed", 1, 0, 1);
    s.at("sea 9 1;wind e 1;ship 0 9 0 9;");
    s.is(1, "put", 0, 0, 0);
    s.is(100, "sailed", 100, 0, 1);
    s.ship(1, 0, 9, 100, 0, 1);
    s.is(200, "sailed", 100, 1, 1);

    s.says(Sentences.TERMS, "X becomes the rest of (X times 16807) by 2147483647;");
    // From 1: 16807, 282475249, 1622650073, 984943658, 1144108930: west, north, south, north, east.
    int[][] fromOne = {{6, 4}, {6, 3}, {6, 4}, {6, 3}, {7, 3}};
    s.at(TEN);
    for (int n = 1; n <= 5; n++) {
      s.is(1, "put", 7, 4, 0);
      s.is(n, "sailed", n, 0, 1);
      s.ship(fromOne[n - 1][0], fromOne[n - 1][1]);
    }
    // 127773 stays below the divisor (..11: east), 127774 wraps (13971: east, not north).
    drawn(127773, 8, 4);
    drawn(127774, 8, 4);
    // 999999 goes round it seven times: 1774597664 (west, not south).
    drawn(999999, 6, 4);

    s.says(Sentences.TERMS, "the WIND is the first by numbers whose ODDS and those of all ahead are together above "
        + "the rest of X by all ODDS.");
    // SEED 10 leaves 0, and so on, since 16807 times it does so by ten.
    int[] seeds = {10, 3, 6, 9, 2, 5, 8, 1, 4, 7};
    for (int rest = 0; rest < 10; rest++) {
      drawn(seeds[rest], rest < 3 ? 8 : rest >= 4 && rest < 8 ? 6 : 7, rest == 3 ? 5 : rest >= 8 ? 3 : 4);
    }
    s.at("sea 16 8;wind e 1;ship 0 0 0 9;");
    drawn(999999, 8, 4);
    s.at("sea 16 8;wind e 1;wind w 1;ship 0 0 0 9;");
    drawn(2, 8, 4);
    drawn(1, 6, 4);
  }

  private void drawn(int seed, int x, int y) {
    s.is(1, "put", 7, 4, 0);
    s.is(1, "sailed", 1, 0, seed);
    s.ship(x, y);
  }

  private void put() {
    s.says(9, "The ship is put into a cell with WATER (0 to DEEP less 1), not STRANDED, HOUR 0: 1.");
    s.at("sea 4 3;wind e 1;land 1 2;ship 5 3 4 9;");
    s.is(1, "put", 3, 2, 8);
    s.ship(3, 2, 8, 0, 0, 0, 5);
    s.is(1, "put", 0, 0, 0);
    s.ship(0, 0, 0, 0, 0, 0, 5);
    s.is(5, "head", 0);
    s.is(1, "put", 0, 2, 6);
    s.is(7, "sailed", 7, 0, 1);
    s.ship(1, 2, 9, 7, 1, 1, 0);
    s.is(1, "put", 0, 1, 1);
    s.ship(0, 1, 1, 0, 0, 0, 0);
    s.is(1, "sailed", 1, 0, 1);
    s.ship(1, 1, 4, 1, 0, 0, 0);

    s.says(9, "BAD: also land;");
    s.is(1, "put", 2, 1, 3);
    s.badAt(0, new long[] {-1, 4, 16, MIN, MAX}, "put", 0, 0, 0);
    s.badAt(1, new long[] {-1, 3, 8, MIN, MAX}, "put", 0, 0, 0);
    s.badAt(2, new long[] {-1, 9, 10, MIN, MAX}, "put", 0, 0, 0);
    s.bad("put", 1, 2, 0);
    s.ship(2, 1, 3, 0, 0, 0, 0);

    s.says(9, "STATE: no SEA (ahead of BAD).");
    s.anew();
    s.is(Due.STATE, "put", 0, 0, 0);
    s.is(Due.STATE, "put", -1, 99, MIN);
    s.refuses(1, "^");
    s.is(Due.STATE, "put", -1, 0, 0);
  }

  private void head() {
    s.says(10, "HEAD from now on (0 to 7): what it was.");
    s.at("sea 4 3;wind n 1;ship 5 0 0 9;");
    s.is(5, "head", 7);
    s.is(7, "head", 0);
    s.is(0, "head", 2);
    s.is(1, "put", 1, 1, 0);
    s.is(2, "ship", 6);
    s.is(1, "sailed", 1, 0, 1);
    s.ship(2, 1, 0, 1, 0, 0, 2);
    s.is(2, "head", 4);
    s.ship(2, 1, 0, 1, 0, 0, 4);
    s.is(1, "put", 0, 0, 0);
    s.is(4, "ship", 6);

    s.says(10, "BAD;");
    s.badAt(0, new long[] {-1, 8, 9, MIN, MAX}, "head", 0);
    s.is(4, "ship", 6);
    s.is(4, "head", 4);

    s.says(10, "STATE: no SEA (ahead of BAD).");
    s.anew();
    s.is(Due.STATE, "head", 0);
    s.is(Due.STATE, "head", 8);
    s.is(Due.STATE, "head", -1);
  }

  private void sailed() {
    s.says(11, "She is SAILED n HOURS (1 to 100), manned (1) or not (0), by a SEED: the HOUR.");
    s.at("sea 16 8;wind e 1;ship 0 1 2 200;");
    s.is(1, "put", 0, 0, 100);
    s.is(1, "sailed", 1, 1, 1);
    s.ship(1, 0, 99, 1);
    s.is(2, "sailed", 1, 0, 1);
    s.ship(2, 0, 100, 2);
    s.is(102, "sailed", 100, 1, 999999);
    s.ship(15, 0, 0, 102);

    s.says(11, "BAD;");
    s.badAt(0, new long[] {0, -1, 101, MIN, MAX}, "sailed", 1, 0, 1);
    s.badAt(1, new long[] {-1, 2, MIN, MAX}, "sailed", 1, 0, 1);
    s.badAt(2, new long[] {0, -1, 1000000, MIN, MAX}, "sailed", 1, 0, 1);
    s.ship(15, 0, 0, 102);

    s.says(11, "STATE: she is at no place (ahead of BAD).");
    s.reads(0, TEN);
    s.is(Due.STATE, "sailed", 1, 0, 1);
    s.is(Due.STATE, "sailed", 0, 2, 0);
    s.anew();
    s.is(Due.STATE, "sailed", 1, 0, 1);
    s.is(Due.STATE, "sailed", 101, -1, -1);
  }

  private void blown() {
    s.says(12, "HOURS by told WINDS, n ITEMS (1 to 40) of a ROW from i on, not manned: the HOUR.");
    s.at("sea 16 8;wind e 1;wind s 1;ship 0 2 40 99;");
    s.is(1, "put", 0, 0, 0);
    s.is(40, "row", 0, 2, 40);
    for (int i = 36; i < 40; i++) {
      s.is(1, "set", 0, i, 1);
    }
    s.is(1, "blown", 0, 0, 1);
    s.ship(1, 0, 2, 1);
    s.is(2, "blown", 0, 39, 1);
    s.ship(1, 1, 4, 2);
    s.is(5, "blown", 0, 35, 3);
    s.ship(2, 3, 10, 5);
    s.is(45, "blown", 0, 0, 40);
    s.ship(15, 7, 90, 45, 0, 0);
    s.is(85, "blown", 0, 0, 40);
    s.ship(15, 7, 99, 85, 0, 1);
    for (int lane = 0; lane < 2; lane++) {
      s.is(2, "row", 1, lane, 2);
      s.is(1, "set", 1, 1, 1);
      s.is(1, "put", 0, 0, 0);
      s.is(2, "blown", 1, 0, 2);
      s.ship(1, 1);
    }
  }

  private void blownRefused() {
    s.says(12, "STATE: she is at no place (ahead of BAD);");
    s.anew();
    s.is(Due.STATE, "blown", 0, 0, 1);
    s.is(Due.STATE, "blown", 8, 0, 0);
    s.at("sea 9 8;wind e 1;wind s 1;ship 0 2 9 99;");
    s.is(Due.STATE, "blown", 0, 0, 1);
    s.is(Due.STATE, "blown", 8, 0, 41);
    s.is(0, "status");

    s.says(12, "BAD: ROW, n;");
    s.is(1, "put", 0, 0, 0);
    s.is(4, "row", 0, 2, 4);
    s.badAt(0, new long[] {-1, 8, MIN, MAX}, "blown", 0, 0, 1);
    s.badAt(2, new long[] {0, -1, 41, MIN, MAX}, "blown", 0, 0, 1);
    s.badAt(2, new long[] {0, 41}, "blown", 5, 0, 1);
    s.badAt(2, new long[] {0, 41}, "blown", 0, -1, 1);

    s.says(12, "NULL;");
    s.is(Due.NULL, "blown", 1, 0, 1);
    s.is(Due.NULL, "blown", 7, -1, 40);

    s.says(12, "PLACE;");
    s.is(Due.PLACE, "blown", 0, -1, 1);
    s.is(Due.PLACE, "blown", 0, 4, 1);
    s.is(Due.PLACE, "blown", 0, 0, 5);
    s.is(Due.PLACE, "blown", 0, 3, 2);
    s.is(Due.PLACE, "blown", 0, MAX, 40);
    s.is(Due.PLACE, "blown", 0, MIN, 40);
    s.is(0, "row", 1, 0, 0);
    s.is(Due.PLACE, "blown", 1, 0, 1);
    // Ahead of an ITEM that is no WIND.
    s.is(2, "set", 0, 3, 2);
    s.is(Due.PLACE, "blown", 0, 3, 2);

    s.says(12, "then BAD: an ITEM that is no WIND.");
    s.bad("blown", 0, 0, 4);
    s.bad("blown", 0, 3, 1);
    s.ship(0, 0, 0, 0);
    s.is(2, "status");
    s.is(-1, "set", 0, 3, -1);
    s.bad("blown", 0, 2, 2);
    s.is(MIN, "set", 0, 3, MIN);
    s.bad("blown", 0, 2, 2);
    s.is(256, "set", 0, 3, 256);
    s.bad("blown", 0, 2, 2);
    s.ship(0, 0, 0, 0);
    s.is(1, "set", 0, 3, 1);
    s.is(4, "blown", 0, 0, 4);
    s.ship(3, 1, 8, 4);
    s.is(4, "set", 0, 0, 4);
    s.is(7, "blown", 0, 1, 3);
  }

  private void ship() {
    s.says(13, "Of the ship: 0 x, 1 y, 2 WATER, 3 HOUR, 4 whether STRANDED (1, 0), 5 whether SUNK, 6 HEAD.");
    s.at("sea 16 8;wind se 1;land 15 7;ship 0 1 0 9;");
    s.is(1, "put", 13, 5, 4);
    s.ship(13, 5, 4, 0, 0, 0, 0);
    s.is(1, "sailed", 1, 0, 1);
    s.ship(14, 6, 5, 1, 0, 0, 0);
    s.is(2, "sailed", 1, 0, 1);
    s.ship(15, 7, 6, 2, 1, 0, 0);
    s.is(5, "sailed", 3, 0, 1);
    s.ship(15, 7, 9, 5, 1, 1, 0);
    s.is(0, "head", 6);
    s.ship(15, 7, 9, 5, 1, 1, 6);

    s.says(13, "BAD;");
    s.badAt(0, new long[] {-1, 7, 8, MIN, MAX}, "ship", 0);

    s.says(13, "STATE: she is at no place (ahead of BAD).");
    s.reads(0, TEN);
    for (int what = -1; what <= 7; what++) {
      s.is(Due.STATE, "ship", what);
    }
    s.anew();
    s.is(Due.STATE, "ship", 0);
    s.is(Due.STATE, "ship", 7);
  }
}
