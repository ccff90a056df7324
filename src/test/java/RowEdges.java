/** Promises 1 to 5 and 40, with the terms of ROWS and of refusals, sentence by sentence. */
final class RowEdges {
  private static final int MIN = Integer.MIN_VALUE;
  private static final int MAX = Integer.MAX_VALUE;
  private static final long[] NO_ROW = {-1, 8, 9, MIN, MAX};
  private static final String FOUR = "sea 16 8;wind e 1;wind s 1;wind w 1;wind n 1;ship 0 0 0 9;";
  private static final String ONE = "sea 3 3;wind n 1;ship 0 0 0 9;sign told 1;";

  private final Sentences s;

  private RowEdges(Sentences s) {
    this.s = s;
  }

  static void all(Sentences s) {
    RowEdges edges = new RowEdges(s);
    edges.newObject();
    edges.refusals();
    edges.nothingChanges();
    edges.rowsAndLanes();
    edges.row();
    edges.set();
    edges.copy();
    edges.copyRefused();
    edges.drop();
    edges.status();
  }

  private void newObject() {
    s.says(1, "No SEA.");
    s.anew();
    for (int what = 0; what <= 8; what++) {
      s.is(0, "count", what);
    }
    s.is(Due.STATE, "put", 0, 0, 0);
    s.is(Due.STATE, "head", 0);
    s.is(Due.STATE, "ship", 0);
    s.is(Due.STATE, "deep", 0);
    s.is(Due.STATE, "oath", 0);
    s.is(Due.STATE, "image", 0);
    s.is(Due.STATE, "restore", 0);
    s.bad("herself", 0, 0, 0, 0, 0);
    s.bad("sign", 0, 0);
    s.bad("odds", 0, 0, 0);
    s.is(0, "fault");
    s.is(0, "status");
    s.is(Due.NONE, "trace", 0);
  }

  private void refusals() {
    s.says(Sentences.TERMS, "Numbers go from 0 on.");
    s.at(ONE + "story 1;");
    s.is(6, "kind", 0);
    s.bad("kind", 1);
    s.is(1, "odds", 0, 0, 0);
    s.bad("odds", 1, 0, 0);
    s.is(1, "row", 0, 0, 1);
    s.is(5, "set", 0, 0, 5);
    s.is(Due.PLACE, "set", 0, 1, 5);

    s.says(Sentences.TERMS, "Refusals are answers, the first of these that fits, but as told:");
    s.anew();
    s.bad("image", 2);
    s.bad("restore", 2);
    s.bad("row", 8, 0, -1);
    s.is(Due.STATE, "put", -1, -1, -1);
    s.is(Due.STATE, "blown", 0, -1, 1);
    s.is(Due.STATE, "blown", 8, 0, 0);
    for (int i = 1; i <= 75; i++) {
      s.is(8 * i, "feed", 0, 8);
    }
    s.bad("feed", 0, 0);
    s.bad("feed", 0, 9);
    s.is(Due.FULL, "feed", 0, 8);

    s.says(Sentences.TERMS, "BAD (a number is not as told; there is no such thing), STATE (as told), FULL (as told),");
    s.anew();
    s.is(-9000000000000000001L, "thought", 1000, 0, 1);
    s.is(-9000000000000000001L, "kind", 0);
    s.is(-9000000000000000002L, "ship", 0);
    for (int i = 1; i <= 75; i++) {
      s.is(8 * i, "feed", 0, 8);
    }
    s.is(-9000000000000000003L, "feed", 0, 1);

    s.says(Sentences.TERMS, "then FINDINGS, of several the first in time:");
    s.anew();
    s.is(1, "row", 0, 0, 1);
    s.is(1, "row", 1, 1, 1);
    s.is(Due.NULL, "copy", 0, 9, 2, 0, 1);
    s.is(Due.STORE, "copy", 0, 9, 1, 0, 1);
    s.is(Due.NULL, "set", 2, 9, 0);

    s.says(Sentences.TERMS, "NOT less 10 less 1 NULL (a ROW that is missing), 2 PLACE (no such place of a ROW), "
        + "3 KIND (a SIGN that is not that), 4 SIZE (fewer than none), 5 STORE (ROWS of two LANES);");
    s.at(ONE);
    s.is(-9000000000000000011L, "drop", 0);
    s.is(1, "row", 0, 0, 1);
    s.is(-9000000000000000012L, "set", 0, 1, 0);
    s.is(-9000000000000000013L, "as", 0, 1);
    s.is(-9000000000000000014L, "row", 0, 0, -1);
    s.is(1, "row", 1, 1, 1);
    s.is(-9000000000000000015L, "copy", 0, 0, 1, 0, 1);

    s.says(Sentences.TERMS, "BAD, STATE, FULL are NOT less 1, 2, 3.");
    s.anew();
    s.is(NobodySails.NOT - 1, "count", 9);
    s.is(NobodySails.NOT - 2, "deep", 0);
    for (int i = 1; i <= 75; i++) {
      s.is(8 * i, "feed", 0, 8);
    }
    s.is(NobodySails.NOT - 3, "feed", 0, 1);
  }

  private void nothingChanges() {
    s.says(Sentences.TERMS, "What is refused, or found, changes nothing but status().");
    s.at(FOUR + "sign told 3;");
    fill(0, 0, 1, 2, 3);
    s.is(1, "put", 5, 5, 4);
    s.is(4, "ask", 0, 0);
    s.is(0, "row", 1, 1, 0);
    s.bad("row", 0, 0, 41);
    s.is(Due.SIZE, "row", 0, 2, -1);
    s.is(4, "status");
    s.is(Due.PLACE, "set", 0, 3, 0);
    s.is(2, "status");
    s.is(Due.PLACE, "copy", 0, 0, 0, 1, 3);
    s.is(Due.STORE, "copy", 0, 0, 1, 0, 0);
    s.is(5, "status");
    s.is(Due.NULL, "drop", 2);
    s.bad("drop", 8);
    s.is(1, "status");
    s.bad("feed", 0, 9);
    s.bad("put", 16, 0, 0);
    s.bad("head", 8);
    s.bad("sailed", 101, 0, 1);
    s.is(Due.PLACE, "blown", 0, 1, 3);
    s.is(Due.KIND, "as", 0, 7);
    s.is(3, "status");
    s.bad("ask", 0, 2);
    s.bad("image", 2);
    s.is(Due.STATE, "restore", 1);
    s.is(3, "status");
    s.ship(5, 5, 4, 0, 0, 0, 0);
    s.is(2, "count", 0);
    s.is(0, "count", 7);
    s.is(0, "fault");
    s.is(13, "trace", 0);
    s.is(10, "trace", 1);
    s.is(Due.NONE, "trace", 2);
    holds(0, 1, 2, 3);
  }

  private void rowsAndLanes() {
    s.says(Sentences.TERMS, "ROWS 0 .. 7 are missing (at first),");
    s.anew();
    s.is(0, "count", 0);
    for (int row = 0; row < 8; row++) {
      s.is(Due.NULL, "drop", row);
      s.is(Due.NULL, "set", row, 0, 0);
      s.is(Due.NULL, "copy", row, 0, row, 0, 0);
    }

    s.says(Sentences.TERMS, "or have a LANE (0 bytes, 1 shorts, 2 ints)");
    s.anew();
    long[] whole = {-56, 200, 200};
    long[] least = {0, -32768, 32768};
    for (int lane = 0; lane < 3; lane++) {
      s.is(1, "row", lane, lane, 1);
      s.is(whole[lane], "set", lane, 0, 200);
      s.is(least[lane], "set", lane, 0, 32768);
    }

    s.says(Sentences.TERMS, "and 0 to 40 ITEMS, 0 at first.");
    s.at("sea 9 8;wind e 1;ship 0 0 0 9;");
    s.is(1, "put", 0, 0, 0);
    s.is(0, "row", 0, 0, 0);
    s.is(Due.PLACE, "set", 0, 0, 0);
    for (int lane = 0; lane < 3; lane++) {
      s.is(40, "row", 1, lane, 40);
      s.is(40 * lane + 40, "blown", 1, 0, 40);
      for (int i = 0; i < 40; i++) {
        s.is(7, "set", 1, i, 7);
      }
      s.bad("blown", 1, 0, 1);
      s.bad("blown", 1, 39, 1);
    }
    s.is(40, "row", 1, 0, 40);
    s.is(160, "blown", 1, 0, 40);
  }

  private void row() {
    s.says(2, "A ROW of a LANE with n ITEMS, in place of what is there: n.");
    s.at(FOUR);
    s.is(0, "row", 0, 0, 0);
    s.is(40, "row", 7, 2, 40);
    s.is(2, "count", 0);
    s.is(3, "set", 7, 0, 3);
    s.is(2, "row", 7, 2, 2);
    s.is(2, "count", 0);
    holds(7, 0, 0);
    s.is(Due.PLACE, "set", 7, 2, 0);
    s.is(1, "row", 7, 0, 1);
    s.is(-1, "set", 7, 0, 255);
    s.is(1, "drop", 7);

    s.says(2, "BAD: ROW, LANE, n above 40;");
    s.anew();
    s.badAt(0, NO_ROW, "row", 0, 0, 1);
    s.badAt(1, new long[] {-1, 3, 4, MIN, MAX}, "row", 0, 0, 1);
    s.badAt(2, new long[] {41, 42, 255, 256, MAX}, "row", 0, 0, 1);
    s.is(0, "count", 0);
    s.is(40, "row", 0, 0, 40);

    s.says(2, "SIZE.");
    s.anew();
    s.is(Due.SIZE, "row", 0, 0, -1);
    s.is(Due.SIZE, "row", 7, 2, MIN);
    s.is(0, "count", 0);
    s.bad("row", -1, 0, -1);
    s.bad("row", 0, -1, -1);
    s.is(3, "row", 0, 0, 3);
    s.is(Due.SIZE, "row", 0, 0, -1);
    s.is(3, "drop", 0);
  }

  private void set() {
    s.says(3, "ITEM i becomes v, its lowest bits, as many as the LANE has (read with their sign): what it is then.");
    s.at(FOUR);
    s.is(2, "row", 0, 0, 2);
    long[][] bytes = {{127, 127}, {128, -128}, {-128, -128}, {-129, 127}, {255, -1}, {256, 0}, {MAX, -1}, {MIN, 0}};
    for (long[] pair : bytes) {
      s.is(pair[1], "set", 0, 1, pair[0]);
    }
    s.is(2, "row", 1, 1, 2);
    long[][] shorts = {{32767, 32767}, {32768, -32768}, {-32769, 32767}, {65535, -1}, {65536, 0}, {MAX, -1}, {MIN, 0}};
    for (long[] pair : shorts) {
      s.is(pair[1], "set", 1, 1, pair[0]);
    }
    s.is(2, "row", 2, 2, 2);
    for (long v : new long[] {MAX, MIN, -1, 0, 65536}) {
      s.is(v, "set", 2, 1, v);
    }
    s.is(3, "set", 0, 1, 259);
    s.is(2, "set", 1, 1, 65538);
    s.is(1, "set", 2, 1, 1);
    holds(0, 0, 3);
    holds(1, 0, 2);
    holds(2, 0, 1);

    s.says(3, "BAD: ROW;");
    s.badAt(0, NO_ROW, "set", 0, 0, 1);
    s.badAt(0, NO_ROW, "set", 0, -1, 1);
    holds(0, 0, 3);

    s.says(3, "NULL;");
    s.is(Due.NULL, "set", 3, 0, 1);
    s.is(Due.NULL, "set", 7, -1, 1);
    s.is(Due.NULL, "set", 7, MAX, 1);
    s.is(3, "count", 0);

    s.says(3, "PLACE.");
    s.is(Due.PLACE, "set", 0, -1, 1);
    s.is(Due.PLACE, "set", 0, 2, 1);
    s.is(Due.PLACE, "set", 0, MIN, 1);
    s.is(Due.PLACE, "set", 0, MAX, 1);
    holds(0, 0, 3);
    s.is(40, "row", 0, 0, 40);
    s.is(1, "set", 0, 39, 1);
    s.is(Due.PLACE, "set", 0, 40, 1);
    s.is(0, "row", 0, 0, 0);
    s.is(Due.PLACE, "set", 0, 0, 1);
  }

  private void copy() {
    s.says(4, "n ITEMS of a from i on come to b from j on, as they were ahead: n.");
    s.at(FOUR);
    fill(0, 0, 0, 1, 2, 3, 1);
    fill(1, 0, 3, 3, 3);
    s.is(2, "copy", 0, 1, 1, 0, 2);
    holds(1, 1, 2, 3);
    holds(0, 0, 1, 2, 3, 1);
    // Within one ROW, to both sides.
    s.is(4, "copy", 0, 0, 0, 1, 4);
    holds(0, 0, 0, 1, 2, 3);
    s.is(4, "copy", 0, 1, 0, 0, 4);
    holds(0, 0, 1, 2, 3, 3);
    s.is(5, "copy", 0, 0, 0, 0, 5);
    holds(0, 0, 1, 2, 3, 3);
    // None, also from and to behind the last.
    s.is(0, "copy", 0, 5, 1, 3, 0);
    s.is(0, "copy", 0, 0, 1, 0, 0);
    holds(1, 1, 2, 3);
    s.at(FOUR);
    for (int lane = 1; lane < 3; lane++) {
      fill(0, lane, 3, 2);
      fill(1, lane, 0, 0);
      s.is(2, "copy", 0, 0, 1, 0, 2);
      holds(1, 3, 2);
    }
    s.is(40, "row", 0, 0, 40);
    s.is(40, "row", 1, 0, 40);
    s.is(1, "set", 0, 39, 1);
    s.is(40, "copy", 0, 0, 1, 0, 40);
    s.is(1, "put", 7, 4, 0);
    s.is(2, "blown", 1, 38, 2);
    s.ship(8, 5);
  }

  private void copyRefused() {
    s.says(4, "BAD: ROWS;");
    s.at(FOUR);
    fill(0, 0, 1, 2, 3);
    fill(1, 0, 3, 3);
    fill(2, 1, 2, 2);
    s.badAt(0, NO_ROW, "copy", 0, 0, 1, 0, 1);
    s.badAt(2, NO_ROW, "copy", 0, 0, 1, 0, 1);
    s.badAt(0, NO_ROW, "copy", 0, -1, 5, 0, 1);

    s.says(4, "NULL;");
    s.is(Due.NULL, "copy", 5, 0, 0, 0, 1);
    s.is(Due.NULL, "copy", 0, 0, 5, 0, 1);
    s.is(Due.NULL, "copy", 5, 0, 6, 0, 0);
    s.is(Due.NULL, "copy", 0, -1, 5, -1, -1);

    s.says(4, "STORE;");
    s.is(Due.STORE, "copy", 0, 0, 2, 0, 1);
    s.is(Due.STORE, "copy", 2, 0, 0, 0, 1);
    s.is(Due.STORE, "copy", 0, 0, 2, 0, 0);
    s.is(Due.STORE, "copy", 0, -1, 2, 0, 1);
    s.is(Due.STORE, "copy", 0, 0, 2, 0, -1);
    s.is(1, "row", 3, 2, 1);
    s.is(Due.STORE, "copy", 2, 0, 3, 0, 1);

    s.says(4, "PLACE (i, j, n below 0, or beyond an end).");
    s.is(Due.PLACE, "copy", 0, -1, 1, 0, 1);
    s.is(Due.PLACE, "copy", 0, 0, 1, -1, 1);
    s.is(Due.PLACE, "copy", 0, 0, 1, 0, -1);
    s.is(Due.PLACE, "copy", 0, 2, 1, 0, 2);
    s.is(Due.PLACE, "copy", 0, 3, 1, 0, 1);
    s.is(Due.PLACE, "copy", 0, 0, 1, 0, 3);
    s.is(Due.PLACE, "copy", 0, 0, 1, 1, 2);
    s.is(Due.PLACE, "copy", 0, 4, 1, 0, 0);
    s.is(Due.PLACE, "copy", 0, 0, 1, 3, 0);
    s.is(Due.PLACE, "copy", 0, -1, 1, 0, 0);
    s.is(Due.PLACE, "copy", 0, 0, 1, -1, 0);
    s.is(Due.PLACE, "copy", 0, MAX, 1, 0, 1);
    s.is(Due.PLACE, "copy", 0, 1, 1, MAX, MAX);
    s.is(Due.PLACE, "copy", 0, 1, 1, 0, MAX);
    s.is(Due.PLACE, "copy", 0, MIN, 1, MIN, MIN);
    holds(0, 1, 2, 3);
    holds(1, 3, 3);
    holds(2, 2, 2);
  }

  private void drop() {
    s.says(5, "A ROW is missing from now on: how many ITEMS it had.");
    s.anew();
    s.is(40, "row", 0, 0, 40);
    s.is(0, "row", 7, 2, 0);
    s.is(2, "count", 0);
    s.is(40, "drop", 0);
    s.is(1, "count", 0);
    s.is(Due.NULL, "set", 0, 0, 0);
    s.is(0, "drop", 7);
    s.is(0, "count", 0);

    s.says(5, "BAD;");
    s.is(1, "row", 0, 0, 1);
    s.badAt(0, NO_ROW, "drop", 0);
    s.is(1, "count", 0);

    s.says(5, "NULL.");
    s.is(Due.NULL, "drop", 7);
    s.is(Due.NULL, "drop", 1);
    s.is(1, "drop", 0);
    s.is(Due.NULL, "drop", 0);
    s.is(2, "row", 0, 1, 2);
    s.is(2, "drop", 0);
  }

  private void status() {
    s.says(40, "Of the latest call with a ROW, or as(),");
    s.at(ONE);
    s.is(Due.NULL, "set", 0, 0, 0);
    s.is(1, "status");
    s.is(Due.KIND, "as", 0, 1);
    s.is(3, "status");
    s.is(Due.SIZE, "row", 0, 0, -1);
    s.is(4, "status");
    s.is(1, "row", 1, 0, 1);
    s.is(Due.PLACE, "copy", 1, 0, 1, 1, 1);
    s.is(2, "status");
    s.is(1, "put", 1, 1, 0);
    s.is(Due.NULL, "blown", 0, 0, 1);
    s.is(1, "status");
    s.is(Due.PLACE, "blown", 1, 0, 2);
    s.is(2, "status");
    s.is(Due.NULL, "drop", 0);
    s.is(1, "status");
    // No other call has a say, fine or not.
    s.is(6, "kind", 0);
    s.is(2, "ask", 0, 0);
    s.is(1, "sailed", 1, 0, 1);
    s.is(1, "image", 0);
    s.is(1, "restore", 0);
    s.is(1, "count", 0);
    s.reads(0, ONE);
    s.refuses(1, "^");
    s.is(1, "status");

    s.says(40, "that was not BAD, STATE, FULL:");
    s.bad("row", 8, 0, 0);
    s.bad("set", 8, 0, 0);
    s.bad("copy", 0, 0, 8, 0, 0);
    s.bad("drop", 8);
    s.bad("as", 1, 0);
    s.bad("as", 0, 8);
    s.is(Due.STATE, "blown", 1, 0, 1);
    s.is(1, "put", 1, 1, 0);
    s.bad("blown", 1, 0, 0);
    s.is(1, "status");
    s.is(1, "set", 1, 0, 1);
    s.is(0, "status");
    s.is(Due.PLACE, "set", 1, 1, 1);
    s.bad("blown", 1, 0, 1);
    s.is(2, "status");

    s.says(40, "the number of its FINDING;");
    s.is(Due.NULL, "drop", 7);
    s.is(1, "status");
    s.is(Due.PLACE, "set", 1, 1, 0);
    s.is(2, "status");
    s.is(Due.KIND, "as", 0, 7);
    s.is(3, "status");
    s.is(Due.SIZE, "row", 1, 0, -1);
    s.is(4, "status");
    s.is(1, "row", 2, 1, 1);
    s.is(Due.STORE, "copy", 1, 0, 2, 0, 1);
    s.is(5, "status");
    s.is(5, "status");

    s.says(40, "0: it had none, or there was none.");
    s.is(1, "row", 3, 0, 1);
    s.is(0, "status");
    found();
    s.is(0, "set", 3, 0, 0);
    s.is(0, "status");
    found();
    s.is(1, "copy", 3, 0, 1, 0, 1);
    s.is(0, "status");
    found();
    s.is(1, "blown", 3, 0, 1);
    s.is(0, "status");
    found();
    s.is(0, "as", 0, 6);
    s.is(0, "status");
    found();
    s.is(1, "drop", 3);
    s.is(0, "status");
    s.anew();
    s.is(0, "status");
    s.bad("drop", 8);
    s.is(0, "status");
  }

  private void found() {
    s.is(Due.NULL, "drop", 7);
    s.is(1, "status");
  }

  private void fill(int row, int lane, int... items) {
    s.is(items.length, "row", row, lane, items.length);
    for (int i = 0; i < items.length; i++) {
      s.is(items[i], "set", row, i, items[i]);
    }
  }

  /** What a ROW holds shows in where its WINDS (of FOUR) blow the ship. */
  private void holds(int row, int... items) {
    int[] east = {1, 0, -1, 0};
    int[] south = {0, 1, 0, -1};
    for (int i = 0; i < items.length; i++) {
      s.is(1, "put", 7, 4, 0);
      s.is(1, "blown", row, i, 1);
      s.ship(7 + east[items[i]], 4 + south[items[i]]);
    }
  }
}
