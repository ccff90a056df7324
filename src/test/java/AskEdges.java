/** Promises 33 to 38, with the terms of KINDS and ASKS, sentence by sentence. */
final class AskEdges {
  private static final int MIN = Integer.MIN_VALUE;
  private static final int MAX = Integer.MAX_VALUE;
  private static final String SHIP = "sea 3 2;wind n 1;ship 1 2 3 9;";
  /** SIGN i is of KIND i and 1, with a GAIN of i and 1. */
  private static final String SIGNS = SHIP + "sign standing 1;sign gone 2;sign left 3;sign logged 4;sign drifted 5;"
      + "sign told 6;sign made 7;";
  private static final String STORIES = SIGNS + "story 1 leaves 6 leaves 5;story 1 bars 6;story 2 leaves 6;";
  private static final long[] NO_SIGN = {-1, 7, 10, MIN, MAX};

  private final Sentences s;

  private AskEdges(Sentences s) {
    this.s = s;
  }

  static void all(Sentences s) {
    AskEdges edges = new AskEdges(s);
    edges.image();
    edges.restore();
    edges.kinds();
    edges.kind();
    edges.as();
    edges.sizes();
    edges.marks();
    edges.nearest();
    edges.ask();
    edges.trace();
    edges.lastCall();
  }

  private void image() {
    s.says(33, "An IMAGE (0, 1) is kept of the SEA and the ship: 1.");
    s.at(STORIES);
    s.is(1, "put", 2, 1, 4);
    s.is(1, "image", 0);
    s.is(1, "sailed", 1, 0, 1);
    s.is(1, "image", 1);
    s.reads(0, "sea 9 8;wind s 2;land 1 1;ship 0 0 0 5;man 1 1;");
    s.is(1, "restore", 1);
    s.ship(2, 1, 6, 1, 0, 0, 1);
    s.is(1, "restore", 0);
    s.ship(2, 1, 4, 0, 0, 0, 1);
    long[] counts = {0, 6, 1, 0, 0, 7, 3, 0, 1};
    for (int what = 0; what < counts.length; what++) {
      s.is(counts[what], "count", what);
    }
    // One kept anew stands in place of the one before; a ship at no place is kept, too.
    s.reads(0, SHIP);
    s.is(1, "image", 0);
    s.is(1, "restore", 1);
    s.is(6, "ship", 2);
    s.is(1, "restore", 0);
    s.is(Due.STATE, "ship", 0);
    s.is(0, "count", 5);

    s.says(33, "BAD;");
    s.badAt(0, new long[] {-1, 2, MIN, MAX}, "image", 0);
    s.anew();
    s.badAt(0, new long[] {-1, 2, MIN, MAX}, "image", 0);

    s.says(33, "STATE: no SEA.");
    s.is(Due.STATE, "image", 0);
    s.is(Due.STATE, "image", 1);
    s.is(Due.STATE, "restore", 0);
    s.reads(0, SHIP);
    s.is(Due.STATE, "restore", 0);
    s.is(1, "image", 0);
  }

  private void restore() {
    s.says(34, "The SEA and the ship are as an IMAGE kept them: 1.");
    s.at("sea 9 3;wind e 1;wind s 2;land 1 1;ship 0 1 2 50;man 7 8;sign gone 1;sign told 2;"
        + "story 3 leaves 0;story 5 bars 1;");
    s.is(2, "row", 0, 0, 2);
    s.is(1, "put", 0, 1, 0);
    s.is(1, "blown", 0, 0, 1);
    s.is(0, "head", 0);
    s.is(1, "image", 0);
    s.is(3, "row", 1, 0, 3);
    s.reads(1, "sea 8 4;wind w 7;wind n 4;wind s 1;land 2 2;land 3 2;ship 3 9 9 90;man 1 1;man 2 2;"
        + "sign made 3;sign left 4;sign told 5;story 9 bars 0;");
    s.is(1, "put", 4, 1, 0);
    s.is(Due.NULL, "drop", 7);
    s.is(5, "feed", 0, 5);
    s.is(1, "restore", 0);
    s.ship(1, 1, 1, 1, 1, 0, 0);
    long[] counts = {2, 27, 2, 1, 1, 2, 2, 5, 3};
    for (int what = 0; what < counts.length; what++) {
      s.is(counts[what], "count", what);
    }
    s.is(1, "status");
    s.is(2, "kind", 0);
    s.is(1, "sign", 0, 0);
    s.is(2, "sign", 1, 0);
    s.is(1, "sign", 0, 1);
    s.is(2, "sign", 1, 2);
    s.is(1, "leave", 7, 0, 0);
    s.is(0, "leave", 6, 7, 0);
    s.is(3, "odds", 0, 0, 0);
    s.is(13, "odds", 0, 0, 1);
    s.is(1, "herself", 3, 4, 0, 1, 0);
    s.is(3, "herself", 3, 4, 0, 1, 1);
    s.bad("put", 1, 1, 0);
    s.is(1, "put", 2, 2, 9);
    s.is(1, "sailed", 1, 1, 1);
    s.is(8, "ship", 2);
    // The IMAGE stays as it was, however often it is taken.
    s.is(1, "restore", 0);
    s.ship(1, 1, 1, 1, 1, 0, 0);
    s.is(0, "head", 7);
    s.is(1, "restore", 0);
    s.is(0, "ship", 6);

    s.says(34, "BAD;");
    s.badAt(0, new long[] {-1, 2, MIN, MAX}, "restore", 0);
    s.anew();
    s.badAt(0, new long[] {-1, 2, MIN, MAX}, "restore", 0);

    s.says(34, "STATE: none was kept.");
    s.is(Due.STATE, "restore", 0);
    s.is(Due.STATE, "restore", 1);
    s.reads(0, SHIP);
    s.is(1, "put", 2, 1, 5);
    s.is(1, "image", 1);
    s.is(Due.STATE, "restore", 0);
    s.ship(2, 1, 5);
    s.is(1, "restore", 1);
  }

  private void kinds() {
    s.says(Sentences.TERMS, "KINDS of SIGNS: 0 SIGN; 1 STANDING, a SIGN; 2 GONE, a SIGN; 3 LEFT, a SIGN; "
        + "4 LOGGED, a SIGN; 5 DRIFTED, a LOGGED one; 6 TOLD, a SIGN; 7 MADE, a TOLD one.");
    s.at(SIGNS);
    int[] kinds = {0b00000011, 0b00000101, 0b00001001, 0b00010001, 0b00110001, 0b01000001, 0b11000001};
    for (int sign = 0; sign < 7; sign++) {
      for (int kind = 0; kind < 8; kind++) {
        s.is((kinds[sign] >> kind & 1) == 1 ? sign : Due.KIND, "as", sign, kind);
      }
    }

    s.says(Sentences.TERMS, "By this it is asked.");
    asked(4, 0, 50, 12, 10);
    asked(3, 0, 4, 10);
    asked(6, 0, -8, 14, 13, 10);
    asked(5, 0, 7, 13, 10);
  }

  private void kind() {
    s.says(35, "The KIND of a SIGN, as told (1 to 7).");
    s.at(SIGNS);
    for (int sign = 0; sign < 7; sign++) {
      s.is(sign + 1, "kind", sign);
    }
    s.is(6, "as", 6, 6);
    s.is(7, "kind", 6);

    s.says(35, "BAD.");
    s.badAt(0, NO_SIGN, "kind", 0);
    s.at(SHIP);
    s.bad("kind", 0);
    s.anew();
    s.bad("kind", 0);
  }

  private void as() {
    s.says(36, "A SIGN is taken as one of a KIND (0 .. 7): the SIGN's number.");
    s.at(SIGNS);
    for (int sign = 0; sign < 7; sign++) {
      s.is(sign, "as", sign, 0);
      s.is(sign, "as", sign, sign + 1);
      s.is(0, "status");
    }
    s.is(4, "as", 4, 4);
    s.is(6, "as", 6, 6);

    s.says(36, "BAD;");
    s.badAt(0, NO_SIGN, "as", 0, 0);
    s.badAt(1, new long[] {-1, 8, MIN, MAX}, "as", 0, 0);
    s.bad("as", 7, 8);
    s.anew();
    s.bad("as", 0, 0);

    s.says(36, "KIND: it is no such one.");
    s.at(SIGNS);
    s.is(Due.KIND, "as", 3, 5);
    s.is(3, "status");
    s.is(Due.KIND, "as", 5, 7);
    s.is(Due.KIND, "as", 4, 6);
    s.is(Due.KIND, "as", 6, 5);
    s.is(Due.KIND, "as", 0, 7);
    s.is(4, "kind", 3);
    s.is(3, "status");
  }

  /** What an ask answers, and all that it leaves in THE TRACE. */
  private void asked(int sign, int what, long answer, int... trace) {
    s.is(answer, "ask", sign, what);
    for (int i = 0; i < trace.length; i++) {
      s.is(trace[i], "trace", i);
    }
    s.is(Due.NONE, "trace", trace.length);
  }

  private void sizes() {
    s.says(Sentences.TERMS, "ASKS of SIGNS, by BODIES, each of which leaves its number in THE TRACE as it begins "
        + "(the first 16):");
    s.at(STORIES);
    asked(4, 1, 154, 22, 21, 20, 12, 10);
    for (int i = 5; i <= 17; i++) {
      s.is(Due.NONE, "trace", i);
    }

    s.says(Sentences.TERMS, "0 SIZE: 10 lent to all SIGNS: GAIN.");
    asked(0, 0, 1, 10);
    asked(2, 0, 3, 10);
    asked(3, 0, 4, 10);

    s.says(Sentences.TERMS, "11 of GONE ones: what 10 gives, and MARK.");
    asked(1, 0, 3, 11, 10, 20);

    s.says(Sentences.TERMS, "12 of DRIFTED ones: 10 times what 10 gives (asked once).");
    asked(4, 0, 50, 12, 10);

    s.says(Sentences.TERMS, "13 of TOLD ones: what 10 gives, and 1.");
    asked(5, 0, 7, 13, 10);

    s.says(Sentences.TERMS, "14 of MADE ones: 0 less what 13 gives.");
    asked(6, 0, -8, 14, 13, 10);

    // A GAIN of 0 and of 9, and the last SIGN there can be.
    s.at(SHIP + "sign gone 0;sign drifted 0;sign told 0;sign made 0;sign gone 9;sign drifted 9;sign told 9;sign made 9;"
        + "sign left 0;sign gone 9;");
    asked(0, 0, 0, 11, 10, 20);
    asked(1, 0, 0, 12, 10);
    asked(2, 0, 1, 13, 10);
    asked(3, 0, -1, 14, 13, 10);
    asked(4, 0, 13, 11, 10, 20);
    asked(5, 0, 90, 12, 10);
    asked(6, 0, 10, 13, 10);
    asked(7, 0, -10, 14, 13, 10);
    asked(8, 0, 0, 10);
    asked(9, 0, 18, 11, 10, 20);
  }

  private void marks() {
    s.says(Sentences.TERMS, "1 MARK: 20 lent to all SIGNS: its number.");
    s.at(STORIES);
    asked(0, 1, 0, 20);
    asked(1, 1, 1, 20);
    asked(5, 1, 5, 20);

    s.says(Sentences.TERMS, "21 of LOGGED ones: what 20 gives, and SIZE.");
    asked(3, 1, 7, 21, 20, 10);

    s.says(Sentences.TERMS, "22 of DRIFTED ones: what 21 gives, and 100.");
    asked(4, 1, 154, 22, 21, 20, 12, 10);

    s.says(Sentences.TERMS, "23 of MADE ones: what 20 gives, and how many STORIES LEAVE it.");
    asked(6, 1, 8, 23, 20);
    s.at(SIGNS);
    asked(6, 1, 6, 23, 20);
    s.at(SHIP + "sign made 0;" + "story 1 leaves 0;".repeat(6));
    asked(0, 1, 6, 23, 20);

    s.says(Sentences.TERMS, "24 of LEFT ones: what 20 gives, less SIZE.");
    s.at(SHIP + "sign left 9;sign left 0;sign left 2;");
    asked(0, 1, -9, 24, 20, 10);
    asked(1, 1, 1, 24, 20, 10);
    asked(2, 1, 0, 24, 20, 10);
  }

  private void nearest() {
    s.says(Sentences.TERMS, "(Of an ask the BODY told for the KIND begins, else that of the nearest KIND that it is, too, "
        + "else the one that is lent;");
    s.at(STORIES);
    int[] sizes = {10, 11, 10, 10, 12, 13, 14};
    int[] marks = {20, 20, 24, 21, 22, 20, 23};
    long[] sizesOf = {1, 3, 3, 4, 50, 7, -8};
    long[] marksOf = {0, 1, -1, 7, 154, 5, 8};
    for (int sign = 0; sign < 7; sign++) {
      s.is(sizesOf[sign], "ask", sign, 0);
      s.is(sizes[sign], "trace", 0);
      s.is(marksOf[sign], "ask", sign, 1);
      s.is(marks[sign], "trace", 0);
    }

    s.says(Sentences.TERMS, "SIZE, MARK within others are asked of the same SIGN anew.)");
    // 21 within 22 asks a DRIFTED one for its own SIZE, by 12.
    asked(4, 1, 154, 22, 21, 20, 12, 10);
    asked(3, 1, 7, 21, 20, 10);
    asked(1, 0, 3, 11, 10, 20);
    asked(2, 1, -1, 24, 20, 10);
  }

  private void ask() {
    s.says(37, "An ASK (0, 1) of a SIGN.");
    s.at(STORIES);
    s.is(4, "ask", 3, 0);
    s.is(7, "ask", 3, 1);
    s.is(8, "ask", 6, 1);

    s.says(37, "BAD.");
    s.badAt(0, NO_SIGN, "ask", 0, 0);
    s.badAt(1, new long[] {-1, 2, MIN, MAX}, "ask", 0, 0);
    s.at(SHIP);
    s.bad("ask", 0, 0);
    s.anew();
    s.bad("ask", 0, 0);
    s.is(Due.NONE, "trace", 0);

    s.says(37, "THE TRACE is empty ahead of it (where that is refused it stays).");
    s.at(STORIES);
    s.is(Due.NONE, "trace", 0);
    asked(4, 1, 154, 22, 21, 20, 12, 10);
    s.bad("ask", 7, 0);
    s.bad("ask", -1, 1);
    s.bad("ask", 0, 2);
    s.is(22, "trace", 0);
    s.is(10, "trace", 4);
    asked(0, 0, 1, 10);
    asked(0, 1, 0, 20);
    s.reads(0, SHIP);
    s.bad("ask", 0, 0);
    s.is(20, "trace", 0);
    s.is(Due.NONE, "trace", 1);
  }

  private void trace() {
    s.says(38, "Number i of THE TRACE; NONE.");
    s.anew();
    for (int i : new int[] {0, 1, -1, 15, 16, MIN, MAX}) {
      s.is(Due.NONE, "trace", i);
    }
    s.at(STORIES);
    s.is(-8, "ask", 6, 0);
    s.is(14, "trace", 0);
    s.is(13, "trace", 1);
    s.is(10, "trace", 2);
    for (int i : new int[] {3, -1, 15, 16, MIN, MAX}) {
      s.is(Due.NONE, "trace", i);
    }
  }

  private void lastCall() {
    s.says(Sentences.TERMS, "An object is used for at most 512 calls after it has been made; "
        + "what later calls answer is free.");
    s.at("sea 2 1;wind e 1;ship 0 0 0 9;");
    s.is(1, "put", 0, 0, 0);
    int made = 6;
    while (made < 511) {
      made++;
      s.is(100L * (made - 6), "sailed", 100, 0, 999999);
    }
    s.is(50500, "ship", 3);
  }
}
