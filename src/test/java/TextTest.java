/** Promises 6 to 8 and 39: the tape, the text, its faults, and the counts. */
final class TextTest {
  private static final Due due = new Due("TextTest");
  private static final String HEAD = "sea 3 2;wind n 1;";
  private static final String SHIP = HEAD + "ship 0 1 2 9;";

  public static void main(String[] args) {
    fed();
    counted();
    blanks();
    numbers();
    order();
    room();
    stories();
    ends();
    anew();
    stays();
    due.end();
  }

  private static void fed() {
    NobodySails x = new NobodySails();
    due.is(Due.BAD, x, "feed", 0, 0);
    due.is(Due.BAD, x, "feed", 0, 9);
    due.is(Due.BAD, x, "feed", 0, -1);
    due.is(Due.BAD, x, "feed", 0, Integer.MIN_VALUE);
    due.is(0, x, "count", 7);
    // Of 'x', 'y', "sea" only the last three bytes come.
    due.is(3, x, "feed", 0x7879736561L, 3);
    due.is(4, x, "feed", 0x7831L, 1);
    due.is(Due.NOT - 104, x, "sea");
    due.is(1, x, "fault");
    for (int i = 1; i <= 74; i++) {
      due.is(8 * i, x, "feed", -1L, 8);
    }
    due.is(Due.BAD, x, "feed", 0, 9);
    due.is(597, x, "feed", 0, 5);
    due.is(Due.FULL, x, "feed", 0, 4);
    due.is(597, x, "count", 7);
    due.is(600, x, "feed", 0, 3);
    due.is(Due.FULL, x, "feed", 0, 1);
    due.is(Due.FULL, x, "feed", 0, 8);
    due.is(600, x, "count", 7);
    due.is(Due.NOT - 100, x, "sea");
    due.is(0, x, "count", 7);
    due.is(1, x, "feed", 0, 1);
  }

  private static void counted() {
    NobodySails x = new NobodySails();
    due.reads(x, 2, "sea 16 8;wind nw 9;wind n 1;land 0 0;land 15 7;land 0 0;ship 7 20 40 200;"
        + "man 200 50;man 1 1;man 5 5;sign made 9;sign told 0;sign gone 3;sign left 4;story 9;story 1 leaves 3;");
    long[] counts = {0, 128, 2, 2, 3, 4, 2, 0, 10};
    for (int what = 0; what < counts.length; what++) {
      due.is(counts[what], x, "count", what);
    }
    due.is(Due.BAD, x, "count", -1);
    due.is(Due.BAD, x, "count", 9);
    due.reads(x, 0, SHIP);
    long[] fewer = {0, 6, 1, 0, 0, 0, 0, 0, 1};
    for (int what = 0; what < fewer.length; what++) {
      due.is(fewer[what], x, "count", what);
    }
  }

  private static void blanks() {
    NobodySails x = new NobodySails();
    due.reads(x, 1, "\n sea3 2;wind n1;land0 0 ;ship0 1 2 9;man1 1;sign told0;story1leaves0bars0; \n ");
    due.reads(x, 0, "  sea\n\n3\n2 ;\nwind  ne\n1 ;ship 0 1 2 9;");
    due.reads(x, 0, "sea 003 02;wind n 001;ship 000 01 2 009;");
    due.faulty(x, 1, 0, "\tsea 3 2;");
    due.faulty(x, 1, 3, "sea\r3 2;");
    due.faulty(x, 1, 2, "  Sea 3 2;");
    due.faulty(x, 1, 4, "sea -3 2;");
    due.faulty(x, 1, 5, "sea 3,2;");
    due.faulty(x, 1, 4, "sea " + (char) 255 + "3 2;");
    due.faulty(x, 1, 4, "sea " + (char) 0 + "3 2;");
    due.faulty(x, 1, 3, "sea" + (char) 160 + "3 2;");
    due.faulty(x, 1, 0, "seas 3 2;");
    due.faulty(x, 1, 0, "se 3 2;");
    due.faulty(x, 1, 8, "sea 3 2;windn 1;");
    due.faulty(x, 1, 8, "sea 3 2;:");
    due.faulty(x, 1, 7, "sea 3 2:wind n 1;ship 0 1 2 9;");
    due.faulty(x, 1, 8, "sea 3 2 1234wind n 1;ship 0 1 2 9;");
    due.faulty(x, 1, 29, HEAD + "ship 0 1 2 9,");
    due.faulty(x, 1, 0, "seaz 3 2;");
    due.faulty(x, 1, 3, "sea{ 3 2;");
    due.faulty(x, 1, 3, "sea` 3 2;");
    due.faulty(x, 1, 5, "sea 3/ 2;");
    due.faulty(x, 1, 5, "sea 3: 2;");
    // What a longer tape left behind is not read again.
    due.faulty(x, 1, 0, "7".repeat(40));
    due.faulty(x, 1, 7, "sea 3 2");
    due.faulty(x, 1, 0, "x".repeat(40));
    due.faulty(x, 1, 12, "sea 3 2;wind");
  }

  private static void numbers() {
    NobodySails x = new NobodySails();
    due.faulty(x, 1, 4, "sea 0003 2;");
    due.faulty(x, 1, 4, "sea 1000 2;");
    due.faulty(x, 2, 4, "sea 999 2;");
    due.faulty(x, 1, 6, "sea 3 1234567890123456789012345678901234567890;");
    due.faulty(x, 2, 4, "sea 0 2;");
    due.faulty(x, 2, 4, "sea 17 2;");
    due.faulty(x, 2, 6, "sea 3 0;");
    due.faulty(x, 2, 6, "sea 3 9;");
    due.faulty(x, 1, 4, "sea ;");
    due.faulty(x, 1, 4, "sea n 2;");
    due.faulty(x, 1, 8, "sea 3 2 2;");
    due.faulty(x, 2, 15, "sea 3 2;wind n 0;");
    due.faulty(x, 2, 15, "sea 3 2;wind n 10;");
    due.faulty(x, 1, 13, "sea 3 2;wind x 1;");
    due.faulty(x, 1, 13, "sea 3 2;wind 1 1;");
    due.faulty(x, 1, 13, "sea 3 2;wind en 1;");
    due.faulty(x, 1, 13, "sea 3 2;wind nne 1;");
    due.faulty(x, 1, 13, "sea 3 2;wind wind 1;");
    due.faulty(x, 2, 22, HEAD + "land 3 0;");
    due.faulty(x, 2, 24, HEAD + "land 2 2;");
    due.faulty(x, 2, 22, HEAD + "ship 8 1 2 9;");
    due.faulty(x, 2, 24, HEAD + "ship 0 21 2 9;");
    due.faulty(x, 2, 26, HEAD + "ship 0 1 41 9;");
    due.faulty(x, 2, 28, HEAD + "ship 0 1 2 0;");
    due.faulty(x, 2, 28, HEAD + "ship 0 1 2 201;");
    due.faulty(x, 2, 34, SHIP + "man 0 1;");
    due.faulty(x, 2, 34, SHIP + "man 201 1;");
    due.faulty(x, 2, 36, SHIP + "man 1 0;");
    due.faulty(x, 2, 36, SHIP + "man 1 51;");
    due.faulty(x, 2, 40, SHIP + "sign told 10;");
    due.faulty(x, 1, 35, SHIP + "sign tolds 1;");
    due.faulty(x, 1, 35, SHIP + "sign sign 1;");
    due.faulty(x, 1, 35, SHIP + "sign 1 1;");
    due.faulty(x, 2, 36, SHIP + "story 0;");
    due.faulty(x, 2, 36, SHIP + "story 10;");
    due.reads(x, 0, "sea 1 1;wind se 9;ship 0 0 0 1;man 200 50;sign standing 0;sign drifted 9;sign logged 1;");
    due.reads(x, 0, "sea 16 8;wind sw 9;wind s 9;wind w 9;wind nw 9;land 15 7;ship 7 20 40 200;man 1 1;");
  }

  private static void order() {
    NobodySails x = new NobodySails();
    due.faulty(x, 1, 0, "");
    due.faulty(x, 1, 3, "   ");
    due.faulty(x, 1, 0, "wind n 1;");
    due.faulty(x, 1, 0, "3 2;wind n 1;ship 0 1 2 9;");
    due.faulty(x, 1, 17, HEAD + "0 1 2 9;");
    due.faulty(x, 1, 8, "sea 3 2;n 1;ship 0 1 2 9;");
    due.faulty(x, 1, 30, SHIP + "1 1;");
    due.faulty(x, 1, 30, SHIP + "told 1;");
    due.faulty(x, 1, 8, "sea 3 2;ship 0 1 2 9;");
    due.faulty(x, 1, 8, "sea 3 2;land 0 0;");
    due.faulty(x, 1, 17, HEAD + "sea 3 2;");
    due.faulty(x, 1, 17, HEAD + "man 1 1;");
    due.faulty(x, 1, 26, HEAD + "land 0 0;wind n 1;");
    due.faulty(x, 1, 30, SHIP + "ship 0 1 2 9;");
    due.faulty(x, 1, 30, SHIP + "land 0 0;");
    due.faulty(x, 1, 30, SHIP + "wind n 1;");
    due.faulty(x, 1, 30, SHIP + ";");
    due.faulty(x, 1, 30, SHIP + "7");
    due.faulty(x, 1, 42, SHIP + "sign told 1;man 1 1;");
    due.faulty(x, 1, 38, SHIP + "story 1;sign told 1;");
    due.faulty(x, 1, 38, SHIP + "story 1;man 1 1;");
    due.faulty(x, 1, 30, SHIP + "leaves 1;");
  }

  private static void room() {
    NobodySails x = new NobodySails();
    String winds = "sea 3 2;" + "wind n 9;".repeat(4);
    due.faulty(x, 3, 44, winds + "wind n 1;");
    due.faulty(x, 3, 44, winds + "wind x 0");
    due.faulty(x, 1, 53, winds + "land 0 0;wind n 1;");
    due.reads(x, 0, winds + "ship 0 0 0 9;");
    due.is(36, x, "count", 8);
    String lands = HEAD + "land 1 1;".repeat(12);
    due.faulty(x, 3, 17 + 108, lands + "land 1 1;");
    due.reads(x, 0, lands + "ship 0 0 0 9;");
    due.is(1, x, "count", 3);
    String men = SHIP + "man 1 1;".repeat(10);
    due.faulty(x, 3, 30 + 80, men + "man 1 1;");
    due.reads(x, 0, men);
    due.is(10, x, "count", 4);
    String signs = SHIP + "sign told 1;".repeat(10);
    due.faulty(x, 3, 30 + 120, signs + "sign told 1;");
    due.reads(x, 0, signs);
    due.is(10, x, "count", 5);
    String stories = SHIP + "story 1;".repeat(6);
    due.faulty(x, 3, 30 + 48, stories + "story 1;");
    due.faulty(x, 1, 30 + 48, stories + "sign told 1;");
    due.reads(x, 6, stories);
    due.is(6, x, "count", 6);
    String full = SHIP + "story 1" + " ".repeat(562) + ";";
    due.same("length", full.length(), 600);
    due.reads(x, 1, full);
  }

  private static void stories() {
    NobodySails x = new NobodySails();
    due.faulty(x, 2, 45, SHIP + "story 1 leaves 0;");
    due.faulty(x, 2, 43, SHIP + "story 1 bars 0;");
    due.faulty(x, 2, 57, SHIP + "sign told 1;story 1 leaves 1;");
    due.faulty(x, 1, 57, SHIP + "sign told 1;story 1 leaves leaves;");
    due.faulty(x, 1, 59, SHIP + "sign told 1;story 1 leaves 0 0;");
    due.faulty(x, 1, 50, SHIP + "sign told 1;story 1 story 1;");
    due.reads(x, 3, SHIP + "sign told 1;sign made 2;story 1 leaves 0 bars 0;story 2 bars 0 bars 1 leaves 0;story 3;");
    due.is(2, x, "sign", 0, 1);
    due.is(1, x, "sign", 0, 2);
    due.is(0, x, "sign", 1, 1);
    due.is(2, x, "sign", 1, 2);
    due.reads(x, 1, SHIP + "sign told 1;story 1" + " leaves 0".repeat(56) + ";");
    due.is(1, x, "sign", 0, 1);
  }

  /** A text that breaks off anywhere is faulty at its end, or at a number that is too small so far. */
  private static void ends() {
    String whole = SHIP + "man 1 1;sign told 1;story 1 leaves 0;";
    NobodySails x = new NobodySails();
    for (int length = 0; length < whole.length(); length++) {
      String text = whole.substring(0, length);
      Due.feed(x, text);
      long got = x.sea();
      boolean complete = text.endsWith(";") && length >= SHIP.length();
      long tail = length;
      while (tail > 0 && Character.isLetter(text.charAt((int) tail - 1))) {
        tail--;
      }
      boolean cutWord = tail < length && Character.isLetter(whole.charAt(length));
      due.same("sea() of \"" + text + "\"", got, complete ? 0 : Due.NOT - 100 - (cutWord ? tail : length));
    }
  }

  /** Nothing of a sea that stood before shows in one that is read, however many were. */
  private static void anew() {
    NobodySails x = new NobodySails();
    String much = "sea 16 8;wind nw 9;wind n 1;land 0 0;land 15 7;land 1 1;ship 7 20 40 200;man 200 50;man 1 1;"
        + "sign made 9;sign told 0;story 9 leaves 0 bars 1;story 1 leaves 1 bars 0;";
    String little = SHIP + "sign told 1;sign gone 2;story 1;";
    for (int i = 0; i < 3; i++) {
      due.reads(x, 2, much);
      due.is(3, x, "count", 3);
      due.is(1, x, "put", 3, 3, 7);
      due.reads(x, 2, much);
      due.is(Due.STATE, x, "ship", 0);
      due.is(2, x, "count", 2);
      due.is(1, x, "put", 3, 3, 7);
      due.faulty(x, 1, much.length(), much + "x");
      due.is(10, x, "count", 8);
      due.is(7, x, "ship", 2);
      due.reads(x, 1, little);
      long[] counts = {0, 6, 1, 0, 0, 2, 1, 0, 1};
      for (int what = 0; what < counts.length; what++) {
        due.is(counts[what], x, "count", what);
      }
      due.is(Due.STATE, x, "ship", 0);
      due.is(0, x, "sign", 0, 1);
      due.is(0, x, "sign", 0, 2);
      due.is(0, x, "sign", 1, 1);
      due.is(0, x, "sign", 1, 2);
      due.is(1, x, "put", 0, 0, 0);
      due.is(1, x, "put", 1, 1, 0);
      due.is(Due.BAD, x, "put", 3, 0, 0);
      due.is(0, x, "leave", 200, 50, 0);
    }
  }

  private static void stays() {
    NobodySails x = new NobodySails();
    due.is(0, x, "fault");
    due.reads(x, 0, SHIP);
    due.is(0, x, "fault");
    due.is(1, x, "put", 1, 1, 3);
    due.is(4, x, "row", 0, 0, 4);
    due.faulty(x, 2, 52, "sea 9 8;wind s 4;wind n 3;land 1 1;ship 3 4 5 6;man 201 1;");
    due.is(6, x, "count", 1);
    due.is(1, x, "count", 2);
    due.is(0, x, "count", 3);
    due.is(1, x, "count", 8);
    due.is(1, x, "ship", 0);
    due.is(3, x, "ship", 2);
    due.is(0, x, "ship", 6);
    due.is(1, x, "sailed", 1, 0, 1);
    due.is(4, x, "ship", 2);
    due.reads(x, 0, "sea 9 8;wind s 4;ship 3 4 5 6;");
    due.is(2, x, "fault");
    due.is(Due.STATE, x, "ship", 0);
    due.is(Due.STATE, x, "sailed", 1, 0, 1);
    due.is(3, x, "head", 0);
    due.is(1, x, "count", 0);
    due.is(72, x, "count", 1);
  }
}
