/** Promises 6 to 8 and 39, with the terms of TEXTS and FAULTS, sentence by sentence. */
final class TextEdges {
  private static final int MIN = Integer.MIN_VALUE;
  private static final int MAX = Integer.MAX_VALUE;
  private static final String SEA = "sea 3 2;";
  private static final String HEAD = SEA + "wind n 1;";
  private static final String SHIP = HEAD + "ship 0 1 2 9;";
  private static final String SIGN = SHIP + "sign told 1;";
  private static final String[] WAYS = {"n", "ne", "e", "se", "s", "sw", "w", "nw"};
  private static final String[] WHATS = {"standing", "gone", "left", "logged", "drifted", "told", "made"};

  private final Sentences s;

  private TextEdges(Sentences s) {
    this.s = s;
  }

  static void all(Sentences s) {
    TextEdges edges = new TextEdges(s);
    edges.tape();
    edges.tokens();
    edges.blanks();
    edges.order();
    edges.seaAndWinds();
    edges.lands();
    edges.shipAndMen();
    edges.signs();
    edges.stories();
    edges.inPlace();
    edges.faultPlaces();
    edges.faultsOfWords();
    edges.faultsOfNumbers();
    edges.faultsOfRoom();
    edges.feed();
    edges.sea();
    edges.fault();
    edges.count();
  }

  private void tape() {
    s.says(Sentences.TERMS, "TEXTS: THE TAPE has at most 600 bytes;");
    s.anew();
    for (int i = 1; i <= 75; i++) {
      s.is(8 * i, "feed", -1, 8);
    }
    s.is(600, "count", 7);
    s.is(Due.FULL, "feed", 0, 1);
    s.is(600, "count", 7);
    String full = SHIP + " ".repeat(600 - SHIP.length() - 8) + "story 1;";
    s.fine(1, full);
    s.faulty(1, full.substring(0, 599) + "^:");
  }

  private void tokens() {
    s.says(Sentences.TERMS, "TOKENS: NAMES (letters a to z),");
    s.faulty(1, "^Sea 3 2;");
    s.faulty(1, "^SEA 3 2;");
    s.faulty(1, "sea^` 3 2;");
    s.faulty(1, "sea^{ 3 2;");
    s.faulty(1, "^seaz 3 2;");
    s.faulty(1, "^asea 3 2;");
    s.faulty(1, "^se 3 2;");
    s.faulty(1, "^s ea 3 2;");
    s.faulty(1, "sea" + "^" + (char) 225 + "3 2;");

    s.says(Sentences.TERMS, "NUMBERS (figures, 3 at most),");
    s.fine(0, "sea 003 02;wind n 001;ship 000 001 002 009;");
    s.fine(0, "sea 3 2;wind n 1;ship 0 1 2 199;");
    s.faulty(1, "sea ^0003 2;");
    s.faulty(1, "sea 3^/ 2;");
    s.faulty(1, "sea 3^: 2;");
    s.faulty(1, "sea ^-3 2;");
    s.faulty(1, "sea ^+3 2;");
    s.faulty(2, "sea 3 2;wind n ^090;");

    s.says(Sentences.TERMS, "SIGNS OF WRITING ;");
    s.faulty(1, "sea 3 2^:");
    s.faulty(1, "sea 3 2^<");
    s.faulty(1, "sea 3 2^,wind n 1;ship 0 1 2 9;");
    s.faulty(1, "sea 3^,2;wind n 1;ship 0 1 2 9;");
    s.faulty(1, "sea 3 2;^;");
    s.faulty(1, "sea 3 2^\u00bb");
  }

  private void blanks() {
    s.says(Sentences.TERMS, "bytes 32 and 10 ahead of, between, behind these, as many as wanted");
    s.fine(0, "\n \n  sea  \n3\n\n2 ; wind\nn\n1\n;\nship 0 1 2 9; \n\n  ");
    s.fine(0, " ".repeat(500) + SHIP + "\n".repeat(70));
    for (int b : new int[] {0, 9, 11, 12, 13, 31, 33, 127, 128, 138, 160, 255}) {
      s.faulty(1, "^" + (char) b + SHIP);
      s.faulty(1, "sea 3^" + (char) b + "2;wind n 1;ship 0 1 2 9;");
      s.faulty(1, SHIP + "^" + (char) b);
    }

    s.says(Sentences.TERMS, "(none is needed where one ends without).");
    s.fine(1, "sea3 2;wind n1;land0 0;ship0 1 2 9;man1 1;sign told1;story1leaves0bars0;");
    s.fine(0, "sea 3 2 ;wind n 1 ;ship 0 1 2 9 ;");
    s.faulty(1, "sea 3 2;^windn 1;ship 0 1 2 9;");
    s.faulty(1, "sea 12^;wind n 1;ship 0 1 2 9;");
    s.faulty(1, SHIP + "sign ^toldtold 1;");
  }

  private void order() {
    s.says(Sentences.TERMS, "text: sea wind { wind } { land } ship { man } { sign } { story }.");
    s.fine(0, SHIP);
    s.fine(0, HEAD + "wind s 2;land 0 0;land 1 1;ship 0 1 2 9;man 1 1;man 2 2;sign told 1;sign gone 1;");
    s.fine(2, HEAD + "ship 0 1 2 9;story 1;story 2;");
    s.fine(1, HEAD + "land 0 0;ship 0 1 2 9;man 1 1;story 1;");
    s.faulty(1, "^wind n 1;ship 0 1 2 9;");
    s.faulty(1, SEA + "^ship 0 1 2 9;");
    s.faulty(1, SEA + "^land 0 0;");
    s.faulty(1, SEA + "^sea 3 2;");
    s.faulty(1, HEAD + "^man 1 1;");
    s.faulty(1, HEAD + "^sign told 1;");
    s.faulty(1, HEAD + "^story 1;");
    s.faulty(1, HEAD + "^sea 3 2;");
    s.faulty(1, HEAD + "land 0 0;^wind n 1;");
    s.faulty(1, HEAD + "land 0 0;^man 1 1;");
    s.faulty(1, SHIP + "^ship 0 1 2 9;");
    s.faulty(1, SHIP + "^land 0 0;");
    s.faulty(1, SHIP + "^wind n 1;");
    s.faulty(1, SHIP + "^sea 3 2;");
    s.faulty(1, SIGN + "^man 1 1;");
    s.faulty(1, SHIP + "story 1;^sign told 1;");
    s.faulty(1, SHIP + "story 1;^man 1 1;");
    s.faulty(1, SHIP + "story 1;^ship 0 1 2 9;");
    s.faulty(1, SHIP + "^leaves 0;");
  }

  private void seaAndWinds() {
    s.says(Sentences.TERMS, "sea: 'sea' WIDE HIGH ';' (1 to 16, 1 to 8).");
    s.fine(0, "sea 1 1;wind n 1;ship 0 0 0 1;");
    s.is(1, "count", 1);
    s.fine(0, "sea 16 8;wind n 1;ship 0 0 0 1;");
    s.is(128, "count", 1);
    s.is(1, "put", 15, 7, 0);
    s.bad("put", 7, 15, 0);
    s.faulty(2, "sea ^0 2;");
    s.faulty(2, "sea ^17 2;");
    s.faulty(2, "sea 3 ^0;");
    s.faulty(2, "sea 3 ^9;");
    s.faulty(1, "sea ^;");
    s.faulty(1, "sea 3^;");
    s.faulty(1, "sea 3 2 ^2;");

    s.says(Sentences.TERMS, "wind: 'wind' WAY ODDS ';' (WAY: 'n' | 'ne' | 'e' | 'se' | 's' | 'sw' | 'w' | 'nw', "
        + "where it blows to, as 0 .. 7;");
    int[] east = {0, 1, 1, 1, 0, -1, -1, -1};
    int[] south = {-1, -1, 0, 1, 1, 1, 0, -1};
    for (int way = 0; way < 8; way++) {
      s.fine(0, "sea 3 3;wind " + WAYS[way] + " 1;ship 0 0 0 9;");
      s.is(1, "put", 1, 1, 0);
      s.is(1, "sailed", 1, 0, 1);
      s.ship(1 + east[way], 1 + south[way]);
    }
    for (String way : new String[] {"en", "es", "ws", "wn", "nn", "ns", "nne", "N", "x", "north", "1", ";"}) {
      s.faulty(1, "sea 3 2;wind ^" + way + " 1;ship 0 1 2 9;");
    }

    s.says(Sentences.TERMS, "ODDS 1 to 9;");
    s.fine(0, "sea 3 2;wind n 1;wind s 9;ship 0 1 2 9;");
    s.is(10, "count", 8);
    s.faulty(2, "sea 3 2;wind n ^0;");
    s.faulty(2, "sea 3 2;wind n ^10;");
    s.faulty(2, "sea 3 2;wind n ^999;");

    s.says(Sentences.TERMS, "WINDS 0 .. 3, 4 at most).");
    s.fine(0, SEA + "wind n 9;".repeat(4) + "ship 0 1 2 9;");
    s.is(4, "count", 2);
    s.is(36, "count", 8);
    s.is(1, "put", 1, 1, 0);
    s.is(1, "row", 0, 0, 1);
    s.is(3, "set", 0, 0, 3);
    s.is(1, "blown", 0, 0, 1);
    s.is(4, "set", 0, 0, 4);
    s.bad("blown", 0, 0, 1);
    s.faulty(3, SEA + "wind n 9;".repeat(4) + "^wind n 9;ship 0 1 2 9;");
  }

  private void lands() {
    s.says(Sentences.TERMS, "land: 'land' X Y ';' (a cell of the sea;");
    s.fine(0, HEAD + "land 0 0;land 2 1;ship 0 1 2 9;");
    s.bad("put", 0, 0, 0);
    s.bad("put", 2, 1, 0);
    s.is(1, "put", 1, 0, 0);
    s.faulty(2, HEAD + "land ^3 0;");
    s.faulty(2, HEAD + "land 2 ^2;");
    s.faulty(2, HEAD + "land ^16 0;");
    s.fine(0, "sea 16 8;wind n 1;land 15 7;ship 0 1 2 9;");
    s.bad("put", 15, 7, 0);
    s.faulty(2, "sea 16 8;wind n 1;land ^16 7;");
    s.faulty(2, "sea 16 8;wind n 1;land 15 ^8;");
    s.fine(0, "sea 1 1;wind n 1;land 0 0;ship 0 1 2 9;");
    s.bad("put", 0, 0, 0);

    s.says(Sentences.TERMS, "told 12 times at most;");
    StringBuilder twelve = new StringBuilder("sea 16 1;wind n 1;");
    for (int x = 0; x < 12; x++) {
      twelve.append("land ").append(x).append(" 0;");
    }
    s.fine(0, twelve + "ship 0 1 2 9;");
    s.is(12, "count", 3);
    s.faulty(3, twelve + "^land 12 0;ship 0 1 2 9;");
    s.faulty(3, HEAD + "land 1 1;".repeat(12) + "^land 1 1;ship 0 1 2 9;");

    s.says(Sentences.TERMS, "what is told twice is one cell).");
    s.fine(0, HEAD + "land 1 1;land 0 1;land 1 1;ship 0 1 2 9;");
    s.is(2, "count", 3);
    s.fine(0, HEAD + "land 1 1;".repeat(12) + "ship 0 1 2 9;");
    s.is(1, "count", 3);
  }

  private void shipAndMen() {
    s.says(Sentences.TERMS, "ship: 'ship' HEAD LEAK PUMP DEEP ';' (0 to 7;");
    s.fine(0, HEAD + "ship 7 1 2 9;");
    s.is(7, "head", 0);
    s.fine(0, HEAD + "ship 0 1 2 9;");
    s.is(0, "head", 0);
    s.faulty(2, HEAD + "ship ^8 1 2 9;");

    s.says(Sentences.TERMS, "0 to 20 and 0 to 40 inches an hour;");
    s.fine(0, HEAD + "ship 0 20 40 100;");
    s.is(1, "put", 0, 0, 50);
    s.is(1, "sailed", 1, 0, 1);
    s.is(70, "ship", 2);
    s.is(2, "sailed", 1, 1, 1);
    s.is(50, "ship", 2);
    s.fine(0, HEAD + "ship 0 0 0 100;");
    s.is(1, "put", 0, 0, 50);
    s.is(1, "sailed", 1, 1, 1);
    s.is(50, "ship", 2);
    s.faulty(2, HEAD + "ship 0 ^21 2 9;");
    s.faulty(2, HEAD + "ship 0 1 ^41 9;");

    s.says(Sentences.TERMS, "DEEP 1 to 200 inches).");
    s.fine(0, HEAD + "ship 0 1 2 1;");
    s.is(1, "put", 0, 0, 0);
    s.bad("put", 0, 0, 1);
    s.fine(0, HEAD + "ship 0 1 2 200;");
    s.is(1, "put", 0, 0, 199);
    s.bad("put", 0, 0, 200);
    s.faulty(2, HEAD + "ship 0 1 2 ^0;");
    s.faulty(2, HEAD + "ship 0 1 2 ^201;");
    s.faulty(1, HEAD + "ship 0 1 2^;");
    s.faulty(1, HEAD + "ship 0 1 2 9 ^9;");

    s.says(Sentences.TERMS, "man: 'man' WATER FEAR ';' (1 to 200; 1 to 50;");
    s.fine(0, SHIP + "man 1 50;man 200 1;");
    s.is(0, "leave", 0, 0, 0);
    s.is(3, "leave", 1, 0, 0);
    s.is(2, "leave", 0, 1, 0);
    s.is(3, "leave", 200, 0, 0);
    s.is(3, "leave", 0, 50, 0);
    s.faulty(2, SHIP + "man ^0 1;");
    s.faulty(2, SHIP + "man ^201 1;");
    s.faulty(2, SHIP + "man 1 ^0;");
    s.faulty(2, SHIP + "man 1 ^51;");
    s.faulty(1, SHIP + "man 1^;");

    s.says(Sentences.TERMS, "MEN 0 .. 9, 10 at most).");
    s.fine(0, SHIP + "man 9 9;".repeat(10));
    s.is(10, "count", 4);
    s.is(1023, "leave", 9, 0, 0);
    s.faulty(3, SHIP + "man 9 9;".repeat(10) + "^man 9 9;");
  }

  private void signs() {
    s.says(Sentences.TERMS, "sign: 'sign' WHAT GAIN ';' (WHAT: 'standing' | 'gone' | 'left' | 'logged' | 'drifted' "
        + "| 'told' | 'made';");
    StringBuilder each = new StringBuilder(SHIP);
    for (String what : WHATS) {
      each.append("sign ").append(what).append(" 1;");
    }
    s.fine(0, each.toString());
    for (int sign = 0; sign < 7; sign++) {
      s.is(sign + 1, "kind", sign);
    }
    for (String what : new String[] {"sign", "stand", "standings", "Told", "tol", "1", ";", "leaves", "story"}) {
      s.faulty(1, SHIP + "sign ^" + what + " 1;");
    }

    s.says(Sentences.TERMS, "GAIN 0 to 9;");
    s.fine(0, SHIP + "sign told 0;sign told 9;");
    s.is(0, "sign", 0, 0);
    s.is(9, "sign", 1, 0);
    s.faulty(2, SHIP + "sign told ^10;");
    s.faulty(1, SHIP + "sign told^;");

    s.says(Sentences.TERMS, "SIGNS 0 .. 9, 10 at most).");
    s.fine(0, SHIP + "sign told 1;".repeat(9) + "sign made 2;");
    s.is(10, "count", 5);
    s.is(7, "kind", 9);
    s.bad("kind", 10);
    s.faulty(3, SHIP + "sign told 1;".repeat(10) + "^sign told 1;");
  }

  private void stories() {
    s.says(Sentences.TERMS, "story: 'story' ODDS { 'leaves' SIGN | 'bars' SIGN } ';' (1 to 9;");
    s.fine(2, SHIP + "story 1;story 9;");
    s.is(1, "odds", 0, 0, 0);
    s.is(10, "odds", 0, 0, 1);
    s.is(9, "odds", 1, 0, 0);
    s.faulty(2, SHIP + "story ^0;");
    s.faulty(2, SHIP + "story ^10;");
    s.faulty(1, SHIP + "story^;");
    s.faulty(1, SIGN + "story ^leaves 0;");
    s.faulty(1, SIGN + "story 1 leaves^;");
    s.faulty(1, SIGN + "story 1 leaves 0 ^0;");
    s.faulty(1, SIGN + "story 1 leaves ^bars 0;");
    s.faulty(1, SIGN + "story 1 ^leave 0;");
    s.faulty(1, SIGN + "story 1 ^bar 0;");
    s.faulty(1, SIGN + "story 1 ^1;");
    s.faulty(1, SIGN + "story 1 leaves 0 ^story 1;");

    s.says(Sentences.TERMS, "SIGNS that were told;");
    s.fine(1, SIGN + "story 1 leaves 0;");
    s.fine(1, SHIP + "sign told 1;".repeat(10) + "story 1 leaves 9 bars 8;");
    s.is(1, "sign", 9, 1);
    s.is(1, "sign", 8, 2);
    s.faulty(2, SIGN + "story 1 leaves ^1;");
    s.faulty(2, SIGN + "story 1 bars ^1;");
    s.faulty(2, SHIP + "story 1 leaves ^0;");
    s.faulty(2, SHIP + "story 1 bars ^0;");
    s.faulty(2, SHIP + "sign told 1;".repeat(10) + "story 1 leaves ^10;");

    s.says(Sentences.TERMS, "STORIES 0 .. 5;");
    s.fine(6, SIGN + "story 1;".repeat(5) + "story 1 leaves 0;");
    s.is(6, "count", 6);
    s.is(32, "sign", 0, 1);
    s.bad("odds", 6, 0, 0);
    s.faulty(3, SIGN + "story 1;".repeat(6) + "^story 1;");

    s.says(Sentences.TERMS, "of one SIGN what is told last holds).");
    s.fine(4, SIGN + "sign gone 1;story 1 leaves 0 bars 0;story 1 bars 0 leaves 0;"
        + "story 1 bars 0 leaves 1 leaves 0 bars 0;story 1 leaves 0 leaves 0;");
    s.is(0b1010, "sign", 0, 1);
    s.is(0b0101, "sign", 0, 2);
    s.is(0b0100, "sign", 1, 1);
    s.is(0, "sign", 1, 2);
    s.fine(1, SIGN + "story 1" + " leaves 0".repeat(60) + " bars 0;");
    s.is(0, "sign", 0, 1);
    s.is(1, "sign", 0, 2);
  }

  private void inPlace() {
    s.says(Sentences.TERMS, "A SEA that is read stands in place of the one before (none at first):");
    String much = "sea 16 8;wind nw 9;wind n 1;land 0 0;land 2 1;ship 7 20 40 200;man 200 50;man 1 1;"
        + "sign made 9;sign told 0;story 9 leaves 0 bars 1;story 1 leaves 1 bars 0;";
    String little = SIGN + "sign gone 2;story 1;story 1;";
    s.anew();
    s.is(0, "count", 1);
    // Twice each: nothing shows of the one before, nor of the one before that.
    s.reads(2, much);
    holds(128, 2, 2, 2, 2, 10);
    s.reads(2, much);
    holds(128, 2, 2, 2, 2, 10);
    s.is(1, "put", 3, 3, 7);
    for (int i = 0; i < 2; i++) {
      s.reads(2, little);
      holds(6, 1, 0, 0, 2, 1);
      for (int sign = 0; sign < 2; sign++) {
        s.is(0, "sign", sign, 1);
        s.is(0, "sign", sign, 2);
      }
      s.is(6, "kind", 0);
      s.is(0, "leave", 200, 50, 0);
      s.is(0, "head", 0);
      s.is(1, "put", 0, 0, 8);
      s.is(1, "put", 2, 1, 8);
      s.bad("put", 3, 0, 0);
      s.bad("put", 0, 0, 9);
    }
    s.reads(2, much);
    holds(128, 2, 2, 2, 2, 10);
    s.is(7, "head", 0);

    s.says(Sentences.TERMS, "the ship at no place;");
    s.fine(0, SHIP);
    s.is(Due.STATE, "ship", 0);
    s.is(1, "put", 1, 1, 3);
    s.is(1, "ship", 0);
    s.reads(0, SHIP);
    s.is(Due.STATE, "ship", 0);
    s.is(Due.STATE, "sailed", 1, 0, 1);
    s.is(1, "put", 0, 0, 0);
    s.is(0, "ship", 3);

    s.says(Sentences.TERMS, "IMAGES and ROWS stay.");
    s.fine(0, "sea 9 3;wind e 1;wind s 1;ship 0 1 2 9;");
    s.is(1, "put", 4, 1, 5);
    s.is(1, "image", 1);
    s.is(2, "row", 3, 0, 2);
    s.is(1, "set", 3, 1, 1);
    s.reads(0, "sea 5 5;wind w 1;wind n 1;ship 0 0 0 9;");
    s.is(1, "count", 0);
    s.is(1, "put", 2, 2, 0);
    s.is(2, "blown", 3, 0, 2);
    s.ship(1, 1, 0);
    s.is(Due.STATE, "restore", 0);
    s.is(1, "restore", 1);
    s.is(27, "count", 1);
    s.ship(4, 1, 5, 0);
    s.is(2, "drop", 3);
  }

  /** Cells, WINDS, cells of land, MEN, SIGNS, and all ODDS of WINDS; the ship is at no place. */
  private void holds(long cells, long winds, long lands, long men, long signs, long odds) {
    long[] counts = {cells, winds, lands, men, signs};
    for (int i = 0; i < counts.length; i++) {
      s.is(counts[i], "count", i + 1);
    }
    s.is(odds, "count", 8);
    s.is(Due.STATE, "ship", 0);
  }

  private void faultPlaces() {
    s.says(Sentences.TERMS, "FAULTS, the first TOKEN that has one (its first byte),");
    s.faulty(2, "\n sea ^17 9 wind;");
    s.faulty(1, "  ^oceans 99 99;");
    s.faulty(2, "sea  ^017 2;");
    s.faulty(1, "sea 3 2;wind ^nne 99;");
    s.faulty(2, "sea 3 2;wind n ^99 ship;");
    s.faulty(2, SHIP + "man ^0 0;");
    s.faulty(2, HEAD + "ship ^8 21 41 201;");
    s.faulty(3, SEA + "wind n 1;".repeat(4) + "^wind x 0");
    s.faulty(2, SEA + "wind n 1;".repeat(3) + "wind n ^0;wind n 1;");

    s.says(Sentences.TERMS, "of one TOKEN the least:");
    s.faulty(1, SEA + "wind n 1;".repeat(4) + "land 0 0;^wind n 1;");
    s.faulty(1, SHIP + "man 1 1;".repeat(10) + "sign told 1;^man 1 1;");
    s.faulty(1, SHIP + "sign told 1;".repeat(10) + "story 1;^sign told 1;");
    s.faulty(1, HEAD + "land 0 0;".repeat(12) + "ship 0 1 2 9;^land 0 0;");
    s.faulty(1, SHIP + "story 1;".repeat(5) + "story 1 ^story 1;");
    s.faulty(1, "sea ^9999 2;");
    s.faulty(1, "sea 3 2;wind ^99 1;");
  }

  private void faultsOfWords() {
    s.says(Sentences.TERMS, "1 it cannot stand there, or is none");
    s.faulty(1, "^;");
    s.faulty(1, "^3");
    s.faulty(1, "sea ^sea");
    s.faulty(1, "sea 3 ^;");
    s.faulty(1, "sea 3 2 ^wind");
    s.faulty(1, SHIP + "^x");
    s.faulty(1, SHIP + "^7");
    s.faulty(1, SHIP + "^;");
    s.faulty(1, SHIP + "^.");
    s.faulty(1, "sea 3^.2;");

    s.says(Sentences.TERMS, "(a run of four figures or more, at its first;");
    s.faulty(1, "sea ^1000 2;");
    s.faulty(1, "sea ^0001 2;");
    s.faulty(1, "sea ^0000000000000003 2;");
    s.faulty(1, "sea 3 ^" + "2".repeat(590));
    s.faulty(1, "sea 3 2;wind n ^4294967297;");
    s.faulty(1, SHIP + "^1234");
    s.faulty(1, "sea 3 2 ^1234;");

    s.says(Sentences.TERMS, "the end: how many bytes there are);");
    String whole = SHIP + "man 1 1;sign told 1;story 1 leaves 0;";
    s.faulty(1, "^");
    s.faulty(1, "   ^");
    s.faulty(1, "sea^");
    s.faulty(1, "sea ^");
    s.faulty(1, "sea 3^");
    s.faulty(1, "sea 3 2^");
    s.faulty(1, SEA + "^");
    s.faulty(1, HEAD + "^");
    s.faulty(1, HEAD + "land 0 0;\n^");
    s.faulty(1, SHIP + "man 1 1^");
    s.faulty(1, whole.substring(0, whole.length() - 1) + "^");
    s.faulty(1, whole.substring(0, whole.length() - 1) + " ".repeat(601 - whole.length()) + "^");
    // Behind a longer tape, whose bytes are not read again.
    s.anew();
    s.refuses(1, "^7" + "7".repeat(40));
    s.refuses(1, "sea 3 2^");
    s.reads(0, SHIP);
    s.refuses(1, "sea 3^");
  }

  private void faultsOfNumbers() {
    s.says(Sentences.TERMS, "2 a NUMBER that is not as told;");
    s.faulty(2, "sea ^0 2;");
    s.faulty(2, "sea 3 ^999;");
    s.faulty(2, SEA + "wind n ^0;");
    s.faulty(2, HEAD + "land ^3 0;");
    s.faulty(2, HEAD + "land 0 ^2;");
    s.faulty(2, HEAD + "ship ^8 0 0 1;");
    s.faulty(2, HEAD + "ship 0 ^21 0 1;");
    s.faulty(2, HEAD + "ship 0 0 ^41 1;");
    s.faulty(2, HEAD + "ship 0 0 0 ^0;");
    s.faulty(2, SHIP + "man ^0 1;");
    s.faulty(2, SHIP + "man 1 ^51;");
    s.faulty(2, SHIP + "sign gone ^10;");
    s.faulty(2, SHIP + "story ^0;");
    s.faulty(2, SHIP + "story 1 bars ^0;");
  }

  private void faultsOfRoom() {
    s.says(Sentences.TERMS, "3 more of a sort than there is room for (its word).");
    s.faulty(3, SEA + "wind n 1;".repeat(4) + "\n ^wind");
    s.faulty(3, HEAD + "land 0 0;".repeat(12) + " ^land");
    s.faulty(3, SHIP + "man 1 1;".repeat(10) + " ^man");
    s.faulty(3, SHIP + "sign told 1;".repeat(10) + " ^sign");
    s.faulty(3, SHIP + "story 1;".repeat(6) + " ^story");
  }

  private void feed() {
    s.says(6, "The lowest n bytes of w (1 to 8), the highest of them first, come behind the tape: how many it has.");
    s.anew();
    // "sea 3 2;" whole, then of "xywind n" and so on the last bytes alone.
    s.is(8, "feed", 0x736561203320323bL, 8);
    s.is(14, "feed", 0x787977696e64206eL, 6);
    s.is(15, "feed", 0x7878787878787820L, 1);
    s.is(17, "feed", 0xffff313bL, 2);
    s.is(20, "feed", 0x7fffff736869L, 3);
    s.is(24, "feed", 0x7870203020L, 4);
    s.is(30, "feed", 0x31203220393bL, 6);
    s.is(30, "count", 7);
    s.is(0, "sea");
    s.is(6, "count", 1);
    s.is(0, "head", 0);
    s.is(1, "deep", 8);

    s.says(6, "BAD: n;");
    s.is(3, "feed", 0, 3);
    s.badAt(1, new long[] {0, -1, 9, 10, 64, MIN, MAX}, "feed", 0, 1);
    s.is(3, "count", 7);

    s.says(6, "FULL: none comes.");
    s.anew();
    for (int i = 1; i <= 74; i++) {
      s.is(8 * i, "feed", 0x2020202020202020L, 8);
    }
    s.is(597, "feed", 0x2020202020L, 5);
    for (int n = 4; n <= 8; n++) {
      s.is(Due.FULL, "feed", 0x2121212121212121L, n);
      s.is(597, "count", 7);
    }
    s.is(600, "feed", 0x202020, 3);
    for (int n = 1; n <= 8; n++) {
      s.is(Due.FULL, "feed", 0, n);
    }
    s.bad("feed", 0, 9);
    s.is(600, "count", 7);
    s.is(Due.NOT - 100 - 600, "sea");
    s.is(8, "feed", 0, 8);
  }

  private void sea() {
    s.says(7, "The tape, empty then, is read: how many STORIES there are.");
    s.fine(0, SHIP);
    s.is(0, "count", 7);
    s.reads(6, SIGN + "story 1;".repeat(6));
    s.is(0, "count", 7);
    s.is(Due.NOT - 100, "sea");
    s.is(1, "feed", ' ', 1);
    s.is(Due.NOT - 101, "sea");
    s.is(0, "count", 7);

    s.says(7, "NOT less 100 less the place of a FAULT: all but the tape, and what fault() tells, stays.");
    s.at(SIGN + "story 1 leaves 0;");
    s.is(1, "put", 1, 1, 3);
    s.is(3, "row", 0, 0, 3);
    s.is(1, "image", 0);
    s.is(2, "ask", 0, 0);
    s.is(Due.PLACE, "set", 0, 3, 0);
    s.refuses(2, "sea 9 8;wind s 4;wind n 3;land 1 1;ship 3 4 5 6;man ^201 1;");
    s.refuses(1, "sea 9 8;wind s 4;wind n 3;land 1 1;ship 3 4 5 6;sign made 9;story 3 bars 0;^x");
    s.refuses(3, SEA + "wind e 2;".repeat(4) + "^wind");
    long[] counts = {1, 6, 1, 0, 0, 1, 1, 0, 1};
    for (int what = 0; what < counts.length; what++) {
      s.is(counts[what], "count", what);
    }
    s.ship(1, 1, 3, 0, 0, 0, 0);
    s.is(1, "sign", 0, 1);
    s.is(6, "kind", 0);
    s.is(13, "trace", 0);
    s.is(2, "status");
    s.is(6, "deep", 3);
    s.is(1, "sailed", 1, 0, 1);
    s.ship(1, 0, 4, 1);
    s.is(1, "restore", 0);
    s.ship(1, 1, 3, 0);
    s.is(3, "fault");
    // Also where there was none before.
    s.faulty(1, SHIP + "^x");
    s.is(Due.STATE, "put", 0, 0, 0);
    s.is(0, "count", 1);
  }

  private void fault() {
    s.says(8, "The number of the latest FAULT;");
    s.anew();
    s.refuses(3, SEA + "wind n 1;".repeat(4) + "^wind");
    s.refuses(2, "sea ^0 2;");
    s.is(2, "fault");
    s.reads(0, SHIP);
    s.is(2, "fault");
    s.is(1, "image", 0);
    s.refuses(1, "^x");
    s.is(1, "restore", 0);
    s.is(1, "fault");

    s.says(8, "0 before one.");
    s.anew();
    s.is(0, "fault");
    s.reads(0, SHIP);
    s.is(0, "fault");
    s.bad("put", 9, 9, 9);
    s.is(0, "fault");
    s.refuses(1, "^x");
    s.is(1, "fault");
  }

  private void count() {
    s.says(39, "How many: 0 ROWS, 1 cells of the sea, 2 WINDS, 3 cells of land, 4 MEN, 5 SIGNS, 6 STORIES, "
        + "7 bytes on the tape, 8 all ODDS of WINDS.");
    s.anew();
    for (int what = 0; what <= 8; what++) {
      s.is(0, "count", what);
    }
    s.reads(2, "sea 15 7;wind nw 9;wind n 1;wind s 2;land 0 0;land 14 6;land 0 0;land 3 3;ship 7 20 40 200;"
        + "man 200 50;man 1 1;man 5 5;man 6 6;man 7 7;sign made 9;sign told 0;sign gone 3;sign left 4;story 9;story 1;");
    s.is(9, "row", 2, 0, 9);
    s.is(7, "feed", 0, 7);
    long[] counts = {1, 105, 3, 3, 5, 4, 2, 7, 12};
    for (int what = 0; what < counts.length; what++) {
      s.is(counts[what], "count", what);
    }
    for (int row = 0; row < 8; row++) {
      s.is(0, "row", row, 0, 0);
    }
    s.is(8, "count", 0);

    s.says(39, "BAD.");
    s.badAt(0, new long[] {-1, 9, 10, MIN, MAX}, "count", 0);
    s.anew();
    s.badAt(0, new long[] {-1, 9}, "count", 0);
  }
}
