/** Promises 19 to 25: the clock, the water, the bang, and who leaves. */
final class WaterTest {
  private static final Due due = new Due("WaterTest");
  private static final int[] OFF = {-1, 201, Integer.MIN_VALUE, Integer.MAX_VALUE};

  public static void main(String[] args) {
    thought();
    rod();
    hours();
    ago();
    bang();
    leave();
    everyCrew();
    due.end();
  }

  private static void thought() {
    NobodySails x = new NobodySails();
    due.is(5, x, "thought", 5, 0, 1);
    due.is(8, x, "thought", 5, 7, 2);
    due.is(2, x, "thought", 5, -7, 2);
    due.is(5, x, "thought", 5, -59, 60);
    due.is(4, x, "thought", 5, -60, 60);
    due.is(1098, x, "thought", 999, 99, 1);
    due.is(-1098, x, "thought", -999, -99, 1);
    due.is(Due.BAD, x, "thought", 1000, 0, 1);
    due.is(Due.BAD, x, "thought", -1000, 0, 1);
    due.is(Due.BAD, x, "thought", 0, 100, 1);
    due.is(Due.BAD, x, "thought", 0, -100, 1);
    due.is(Due.BAD, x, "thought", 0, 0, 0);
    due.is(Due.BAD, x, "thought", 0, 0, 61);
    due.is(Due.BAD, x, "thought", 0, 0, -1);
  }

  private static void rod() {
    NobodySails x = new NobodySails();
    due.is(Due.STATE, x, "seemed", -1, 0, 0);
    x = Due.at("sea 1 1;wind n 1;ship 0 4 0 60;");
    due.is(36, x, "seemed", 42, 6, 0);
    due.is(48, x, "seemed", 42, 6, 1);
    due.is(0, x, "seemed", 3, 6, 0);
    due.is(9, x, "seemed", 3, 6, 1);
    due.is(50, x, "seemed", 58, 8, 0);
    due.is(60, x, "seemed", 58, 8, 1);
    due.is(60, x, "seemed", 200, 0, 0);
    due.is(60, x, "seemed", 200, 50, 0);
    due.is(60, x, "seemed", 200, 50, 1);
    due.is(0, x, "seemed", 0, 50, 0);
    for (int v : OFF) {
      due.is(Due.BAD, x, "seemed", v, 0, 0);
      due.is(Due.BAD, x, "was", v, 0, 0, 0);
      due.is(Due.BAD, x, "deep", v);
    }
    due.is(Due.BAD, x, "seemed", 0, -1, 0);
    due.is(Due.BAD, x, "seemed", 0, 51, 0);
    due.is(Due.BAD, x, "seemed", 0, 0, -1);
    due.is(Due.BAD, x, "seemed", 0, 0, 2);
  }

  private static void hours() {
    NobodySails x = new NobodySails();
    due.is(Due.STATE, x, "deep", -1);
    x = Due.at("sea 1 1;wind n 1;ship 0 4 9 60;");
    due.is(15, x, "deep", 0);
    due.is(15, x, "deep", 1);
    due.is(14, x, "deep", 4);
    due.is(1, x, "deep", 56);
    due.is(2, x, "deep", 55);
    due.is(1, x, "deep", 59);
    due.is(0, x, "deep", 60);
    due.is(0, x, "deep", 200);
    x = Due.at("sea 1 1;wind n 1;ship 0 1 0 60;");
    due.is(60, x, "deep", 0);
    due.is(1, x, "deep", 59);
    x = Due.at("sea 1 1;wind n 1;ship 0 0 0 60;");
    due.is(Due.NONE, x, "deep", 59);
    due.is(0, x, "deep", 60);
    due.is(0, x, "deep", 61);
  }

  private static void ago() {
    NobodySails x = new NobodySails();
    due.is(Due.STATE, x, "was", -1, 0, 0, 0);
    x = Due.at("sea 1 1;wind n 1;ship 0 2 9 60;");
    due.is(36, x, "was", 42, 6, 0, 0);
    due.is(16, x, "was", 42, 6, 10, 0);
    due.is(28, x, "was", 42, 6, 10, 1);
    due.is(0, x, "was", 42, 6, 18, 0);
    due.is(0, x, "was", 42, 6, 19, 0);
    due.is(10, x, "was", 42, 6, 19, 1);
    due.is(0, x, "was", 42, 6, 99, 1);
    due.is(58, x, "was", 200, 50, 1, 1);
    due.is(Due.BAD, x, "was", 0, -1, 0, 0);
    due.is(Due.BAD, x, "was", 0, 51, 0, 0);
    due.is(Due.BAD, x, "was", 0, 0, -1, 0);
    due.is(Due.BAD, x, "was", 0, 0, 100, 0);
    due.is(Due.BAD, x, "was", 0, 0, 0, -1);
    due.is(Due.BAD, x, "was", 0, 0, 0, 2);
  }

  private static void bang() {
    NobodySails x = new NobodySails();
    parts(x, 3, 1, 1, 999, 30, 1, 1);
    parts(x, 29, 1, 10, 999, 29, 0, 0);
    parts(x, 30, 1, 10, 30, 30, 1, 1);
    parts(x, 30, 1, 10, 29, 30, 1, 0);
    parts(x, 19, 1, 1, 0, 190, 1, 0);
    parts(x, 19, 1, 1, 19, 190, 1, 1);
    parts(x, 99, 50, 259, 999, 191, 0, 0);
    parts(x, 99, 50, 260, 999, 190, 1, 0);
    parts(x, 0, 50, 1, 999, 0, 0, 0);
    parts(x, 99, 0, 999, 0, 0, 0, 0);
    parts(x, 99, 50, 1, 999, 49500, 0, 0);
    due.is(Due.BAD, x, "bang", -1, 0, 1, 0, 0);
    due.is(Due.BAD, x, "bang", 100, 0, 1, 0, 0);
    due.is(Due.BAD, x, "bang", 0, -1, 1, 0, 0);
    due.is(Due.BAD, x, "bang", 0, 51, 1, 0, 0);
    due.is(Due.BAD, x, "bang", 0, 0, 0, 0, 0);
    due.is(Due.BAD, x, "bang", 0, 0, 1000, 0, 0);
    due.is(Due.BAD, x, "bang", 0, 0, 1, -1, 0);
    due.is(Due.BAD, x, "bang", 0, 0, 1, 1000, 0);
    due.is(Due.BAD, x, "bang", 0, 0, 1, 0, -1);
    due.is(Due.BAD, x, "bang", 0, 0, 1, 0, 3);
  }

  private static void parts(NobodySails x, int b, int g, int v, int m, long... wanted) {
    for (int what = 0; what < 3; what++) {
      due.is(wanted[what], x, "bang", b, g, v, m, what);
    }
  }

  private static void leave() {
    NobodySails x = new NobodySails();
    due.is(Due.STATE, x, "leave", -1, 0, 0);
    due.is(Due.STATE, x, "leastWater", -1);
    x = Due.at("sea 1 1;wind n 1;ship 0 0 0 60;");
    due.is(0, x, "leave", 200, 50, 0);
    due.is(0, x, "leave", 200, 50, 1);
    due.is(Due.NONE, x, "leastWater", 50);
    // Each one leaves when the one before has left: ten rounds.
    x = Due.at("sea 1 1;wind n 1;ship 0 0 0 60;man 9 1;man 200 1;man 200 2;man 200 3;man 200 4;man 200 5;"
        + "man 200 6;man 200 7;man 200 8;man 200 9;");
    due.is(0, x, "leave", 8, 0, 0);
    due.is(0, x, "leave", 8, 0, 1);
    due.is(1023, x, "leave", 9, 0, 0);
    due.is(10, x, "leave", 9, 0, 1);
    due.is(5, x, "leave", 8, 1, 1);
    due.is(1, x, "leave", 200, 0, 1);
    due.is(9, x, "leastWater", 0);
    due.is(1, x, "leastWater", 1);
    x = Due.at("sea 1 1;wind n 1;ship 0 0 0 60;man 20 50;man 30 2;man 40 9;");
    due.is(1, x, "leave", 20, 0, 0);
    due.is(3, x, "leave", 20, 1, 0);
    due.is(2, x, "leave", 20, 1, 1);
    due.is(3, x, "leave", 30, 0, 0);
    due.is(1, x, "leave", 30, 0, 1);
    due.is(7, x, "leave", 20, 7, 0);
    due.is(2, x, "leave", 20, 7, 1);
    due.is(2, x, "leave", 0, 7, 0);
    due.is(6, x, "leave", 0, 8, 0);
    due.is(40, x, "leastWater", 0);
    due.is(20, x, "leastWater", 7);
    due.is(20, x, "leastWater", 47);
    due.is(1, x, "leastWater", 48);
    for (int w : OFF) {
      due.is(Due.BAD, x, "leave", w, 0, 0);
    }
    for (int f : new int[] {-1, 51}) {
      due.is(Due.BAD, x, "leave", 0, f, 0);
      due.is(Due.BAD, x, "leastWater", f);
    }
    due.is(Due.BAD, x, "leave", 0, 0, -1);
    due.is(Due.BAD, x, "leave", 0, 0, 2);
  }

  /** LEAST WATER is what trying every WATER finds, for crews of all sorts. */
  private static void everyCrew() {
    java.util.Random random = new java.util.Random(5);
    for (int i = 0; i < 30; i++) {
      int men = 1 + random.nextInt(10);
      StringBuilder text = new StringBuilder("sea 1 1;wind n 1;ship 0 0 0 60;");
      for (int k = 0; k < men; k++) {
        text.append("man ").append(1 + random.nextInt(i < 15 ? 200 : 6));
        text.append(' ').append(1 + random.nextInt(i % 2 == 0 ? 50 : 12)).append(';');
      }
      for (int f = 0; f <= 50; f++) {
        NobodySails x = Due.at(text.toString());
        long least = 1;
        while (Due.call(x, "leave", least, f, 0) != (1 << men) - 1) {
          least++;
        }
        due.is(least, x, "leastWater", f);
      }
    }
  }
}
