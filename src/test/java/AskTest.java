/** Promises 33 to 38: images, kinds, and the asks with their trace. */
final class AskTest {
  private static final Due due = new Due("AskTest");
  private static final String SHIP = "sea 3 2;wind n 1;ship 1 2 3 9;";
  private static final String SIGNS = "sign standing 1;sign gone 2;sign left 3;sign logged 4;sign drifted 5;"
      + "sign told 6;sign made 7;";

  public static void main(String[] args) {
    images();
    imagesStay();
    imagesWhole();
    kinds();
    bodies();
    traces();
    due.end();
  }

  private static void images() {
    NobodySails x = new NobodySails();
    for (String call : new String[] {"image", "restore"}) {
      due.is(Due.BAD, x, call, -1);
      due.is(Due.BAD, x, call, 2);
      due.is(Due.STATE, x, call, 0);
      due.is(Due.STATE, x, call, 1);
    }
    due.reads(x, 1, SHIP + SIGNS + "story 4 leaves 1 bars 2;");
    due.is(1, x, "image", 1);
    due.is(Due.STATE, x, "restore", 0);
    due.is(1, x, "put", 1, 0, 3);
    due.is(2, x, "sailed", 2, 0, 1);
    due.is(1, x, "head", 4);
    due.is(1, x, "image", 0);
    due.is(4, x, "head", 5);
    due.is(12, x, "sailed", 10, 0, 1);
    due.reads(x, 2, "sea 16 8;wind e 2;wind w 3;land 1 1;ship 2 1 0 100;man 3 3;sign told 9;story 1;story 2 bars 0;");
    due.is(1, x, "restore", 0);
    standsAsKept(x);
    long[] ship = {1, 0, 7, 2, 0, 0, 4};
    for (int what = 0; what < 7; what++) {
      due.is(ship[what], x, "ship", what);
    }
    due.is(1, x, "restore", 1);
    standsAsKept(x);
    due.is(Due.STATE, x, "ship", 0);
    due.is(1, x, "head", 1);
    due.is(1, x, "restore", 0);
    due.is(2, x, "ship", 3);
  }

  private static void standsAsKept(NobodySails x) {
    long[] counts = {6, 1, 0, 0, 7, 1, 0, 1};
    for (int what = 1; what <= 8; what++) {
      due.is(counts[what - 1], x, "count", what);
    }
    due.is(3, x, "sign", 2, 0);
    due.is(1, x, "sign", 1, 1);
    due.is(1, x, "sign", 2, 2);
    due.is(7, x, "kind", 6);
    due.is(9, x, "seemed", 9, 0, 1);
    due.is(5, x, "deep", 0);
    due.is(1, x, "odds", 0, 2, 0);
    due.is(Due.NONE, x, "leastWater", 50);
  }

  /** What comes behind an image or a restore leaves the image as it was; rows and the tape are in none. */
  private static void imagesStay() {
    NobodySails x = Due.at("sea 3 2;wind e 1;land 2 1;ship 0 1 0 9;man 5 5;");
    due.is(1, x, "put", 0, 0, 0);
    due.is(1, x, "image", 0);
    due.is(1, x, "sailed", 1, 0, 1);
    due.is(1, x, "restore", 0);
    due.is(1, x, "sailed", 1, 0, 1);
    due.is(1, x, "ship", 0);
    due.is(4, x, "row", 3, 0, 4);
    due.is(1, x, "feed", 's', 1);
    due.is(1, x, "restore", 0);
    due.is(0, x, "ship", 0);
    due.is(0, x, "ship", 3);
    due.is(1, x, "count", 0);
    due.is(1, x, "count", 7);
    due.is(Due.NOT - 100, x, "sea");
    due.is(1, x, "fault");
    due.is(0, x, "ship", 0);
    due.reads(x, 0, "sea 1 1;wind n 1;ship 0 0 0 1;");
    due.is(1, x, "image", 1);
    due.is(1, x, "restore", 0);
    due.is(1, x, "count", 3);
    due.is(1, x, "leave", 5, 0, 0);
    due.is(0, x, "leave", 4, 4, 0);
    due.is(1, x, "image", 1);
    due.is(1, x, "restore", 1);
    due.is(6, x, "count", 1);
    due.is(1, x, "fault");
  }

  /** The winds, their odds, the land, the men and the stories come back, and so does a stranded ship. */
  private static void imagesWhole() {
    NobodySails x = Due.at("sea 9 3;wind e 1;wind s 2;land 1 1;ship 0 1 0 50;man 7 8;sign gone 1;sign told 2;"
        + "story 3 leaves 0;story 5 bars 1;");
    due.is(2, x, "row", 0, 0, 2);
    due.is(1, x, "set", 0, 1, 1);
    due.is(1, x, "put", 0, 1, 0);
    due.is(1, x, "blown", 0, 0, 1);
    due.is(1, x, "image", 0);
    due.reads(x, 1, "sea 9 3;wind w 7;wind n 4;land 2 2;ship 3 9 9 90;man 1 1;sign made 3;sign left 4;story 9 bars 0;");
    due.is(1, x, "put", 4, 1, 0);
    due.is(1, x, "restore", 0);
    due.is(1, x, "ship", 4);
    due.is(2, x, "blown", 0, 0, 1);
    due.is(1, x, "ship", 0);
    due.is(2, x, "ship", 2);
    due.is(1, x, "put", 3, 1, 0);
    due.is(2, x, "blown", 0, 0, 2);
    due.is(4, x, "ship", 0);
    due.is(2, x, "ship", 1);
    due.is(0, x, "ship", 4);
    due.is(1, x, "herself", 3, 4, 0, 1, 0);
    due.is(3, x, "herself", 3, 4, 0, 1, 1);
    due.is(Due.BAD, x, "put", 1, 1, 0);
    due.is(1, x, "put", 2, 2, 0);
    due.is(1, x, "leave", 7, 0, 0);
    due.is(0, x, "leave", 6, 7, 0);
    due.is(1, x, "leave", 6, 8, 0);
    due.is(3, x, "odds", 0, 0, 0);
    due.is(13, x, "odds", 0, 0, 1);
    due.is(1, x, "sign", 0, 0);
    due.is(2, x, "sign", 1, 2);
    due.is(2, x, "kind", 0);
    due.is(50, x, "deep", 0);
    due.is(1, x, "put", 0, 0, 9);
    due.is(1, x, "sailed", 1, 1, 1);
    due.is(10, x, "ship", 2);
  }

  private static void kinds() {
    NobodySails x = new NobodySails();
    due.is(Due.BAD, x, "kind", 0);
    due.is(Due.BAD, x, "as", 0, 0);
    x = Due.at(SHIP + SIGNS);
    for (int sign = 0; sign < 7; sign++) {
      int kind = sign + 1;
      due.is(kind, x, "kind", sign);
      for (int asked = 0; asked <= 7; asked++) {
        boolean is = asked == 0 || asked == kind || kind == 5 && asked == 4 || kind == 7 && asked == 6;
        due.is(is ? sign : Due.KIND, x, "as", sign, asked);
        due.is(is ? 0 : 3, x, "status");
      }
    }
    for (int sign : new int[] {-1, 7, Integer.MIN_VALUE, Integer.MAX_VALUE}) {
      due.is(Due.BAD, x, "kind", sign);
      due.is(Due.BAD, x, "as", sign, 0);
      due.is(Due.BAD, x, "ask", sign, 0);
    }
    due.is(Due.BAD, x, "as", 0, -1);
    due.is(Due.BAD, x, "as", 0, 8);
  }

  private static void asked(NobodySails x, int sign, int what, long answer, int... trace) {
    due.is(answer, x, "ask", sign, what);
    for (int i = 0; i < trace.length; i++) {
      due.is(trace[i], x, "trace", i);
    }
    due.is(Due.NONE, x, "trace", trace.length);
  }

  private static void bodies() {
    NobodySails x = Due.at(SHIP + SIGNS + "story 1 leaves 6 leaves 5;story 1 bars 6;story 2 leaves 6;");
    asked(x, 0, 0, 1, 10);
    asked(x, 1, 0, 3, 11, 10, 20);
    asked(x, 2, 0, 3, 10);
    asked(x, 3, 0, 4, 10);
    asked(x, 4, 0, 50, 12, 10);
    asked(x, 5, 0, 7, 13, 10);
    asked(x, 6, 0, -8, 14, 13, 10);
    asked(x, 0, 1, 0, 20);
    asked(x, 1, 1, 1, 20);
    asked(x, 2, 1, -1, 24, 20, 10);
    asked(x, 3, 1, 7, 21, 20, 10);
    asked(x, 4, 1, 154, 22, 21, 20, 12, 10);
    asked(x, 5, 1, 5, 20);
    asked(x, 6, 1, 8, 23, 20);
  }

  private static void traces() {
    NobodySails x = new NobodySails();
    due.is(Due.BAD, x, "ask", 0, 0);
    due.is(Due.NONE, x, "trace", 0);
    x = Due.at(SHIP + SIGNS);
    asked(x, 6, 0, -8, 14, 13, 10);
    due.is(Due.BAD, x, "ask", 7, 0);
    due.is(Due.BAD, x, "ask", 0, 2);
    due.is(Due.BAD, x, "ask", 0, -1);
    due.is(14, x, "trace", 0);
    due.is(10, x, "trace", 2);
    for (int i : new int[] {-1, 3, 15, 16, Integer.MIN_VALUE, Integer.MAX_VALUE}) {
      due.is(Due.NONE, x, "trace", i);
    }
    due.is(6, x, "kind", 5);
    due.is(Due.KIND, x, "as", 5, 7);
    due.reads(x, 0, SHIP);
    due.is(13, x, "trace", 1);
  }
}
