/** Promises 9 to 13: the ship is put, headed, sailed and blown. */
final class ShipTest {
  private static final Due due = new Due("ShipTest");
  private static final String WAYS = "n ne e se s sw w nw";

  public static void main(String[] args) {
    put();
    headed();
    ways();
    edges();
    stranded();
    water();
    sailed();
    blown();
    told();
    due.end();
  }

  private static void is(NobodySails x, int... ship) {
    for (int what = 0; what < ship.length; what++) {
      due.is(ship[what], x, "ship", what);
    }
  }

  private static void put() {
    NobodySails x = new NobodySails();
    due.is(Due.STATE, x, "put", -1, 0, 0);
    x = Due.at("sea 4 3;wind n 1;land 1 2;ship 5 3 4 9;");
    due.is(Due.BAD, x, "put", -1, 0, 0);
    due.is(Due.BAD, x, "put", 4, 0, 0);
    due.is(Due.BAD, x, "put", 0, -1, 0);
    due.is(Due.BAD, x, "put", 0, 3, 0);
    due.is(Due.BAD, x, "put", 0, 0, -1);
    due.is(Due.BAD, x, "put", 0, 0, 9);
    due.is(Due.BAD, x, "put", 1, 2, 0);
    due.is(Due.BAD, x, "put", Integer.MAX_VALUE, Integer.MIN_VALUE, 0);
    due.is(Due.STATE, x, "ship", 0);
    due.is(1, x, "put", 3, 2, 8);
    is(x, 3, 2, 8, 0, 0, 0, 5);
    due.is(1, x, "sailed", 1, 0, 1);
    is(x, 3, 2, 9, 1, 0, 1, 5);
    due.is(Due.BAD, x, "put", 1, 2, 0);
    is(x, 3, 2, 9, 1, 0, 1, 5);
    due.is(1, x, "put", 0, 0, 0);
    is(x, 0, 0, 0, 0, 0, 0, 5);
  }

  private static void headed() {
    NobodySails x = new NobodySails();
    due.is(Due.STATE, x, "head", 0);
    x = Due.at("sea 4 3;wind n 1;ship 5 3 4 9;");
    due.is(Due.BAD, x, "head", -1);
    due.is(Due.BAD, x, "head", 8);
    due.is(5, x, "head", 7);
    due.is(7, x, "head", 0);
    due.is(1, x, "put", 1, 1, 0);
    due.is(0, x, "head", 2);
    due.is(2, x, "ship", 6);
    due.is(1, x, "sailed", 1, 0, 1);
    is(x, 2, 1, 3, 1, 0, 0, 2);
  }

  private static void ways() {
    int[] east = {0, 1, 1, 1, 0, -1, -1, -1};
    int[] south = {-1, -1, 0, 1, 1, 1, 0, -1};
    String[] names = WAYS.split(" ");
    for (int way = 0; way < 8; way++) {
      NobodySails x = Due.at("sea 3 3;wind " + names[way] + " 1;ship 0 0 0 9;");
      for (int h = 0; h < 8; h++) {
        x.head(h);
        due.is(1, x, "put", 1, 1, 0);
        due.is(1, x, "sailed", 1, 0, 7);
        is(x, 1 + east[(way + h) % 8], 1 + south[(way + h) % 8], 0, 1, 0, 0, h);
      }
    }
  }

  /** Beyond the sea she stays, also where only one of x and y would leave it. */
  private static void edges() {
    NobodySails x = Due.at("sea 16 8;wind n 1;ship 0 0 0 9;");
    int[][] stays = {{0, 0, 7}, {0, 0, 0}, {0, 0, 1}, {0, 0, 5}, {0, 0, 6}, {15, 7, 3}, {15, 7, 2}, {15, 7, 4},
        {15, 7, 1}, {15, 3, 2}, {15, 3, 3}, {0, 3, 6}, {4, 0, 1}, {4, 7, 4}};
    for (int[] s : stays) {
      x.put(s[0], s[1], 0);
      x.head(s[2]);
      due.is(2, x, "sailed", 2, 1, 5);
      is(x, s[0], s[1], 0, 2, 0, 0, s[2]);
    }
  }

  private static void stranded() {
    NobodySails x = Due.at("sea 5 3;wind e 1;wind w 1;land 3 1;ship 0 2 1 12;");
    due.is(4, x, "row", 0, 0, 4);
    due.is(1, x, "set", 0, 3, 1);
    due.is(1, x, "put", 1, 1, 0);
    due.is(2, x, "blown", 0, 0, 2);
    is(x, 3, 1, 4, 2, 1, 0, 0);
    due.is(4, x, "blown", 0, 2, 2);
    is(x, 3, 1, 8, 4, 1, 0, 0);
    due.is(6, x, "sailed", 2, 1, 77);
    is(x, 3, 1, 10, 6, 1, 0, 0);
    due.is(10, x, "blown", 0, 0, 4);
    is(x, 3, 1, 12, 10, 1, 1, 0);
    due.is(1, x, "put", 2, 1, 11);
    due.is(1, x, "blown", 0, 0, 1);
    is(x, 3, 1, 12, 1, 1, 1, 0);
    due.is(1, x, "put", 2, 1, 11);
    is(x, 2, 1, 11, 0, 0, 0, 0);
  }

  private static void water() {
    NobodySails x = Due.at("sea 9 1;wind e 1;ship 0 20 40 50;");
    due.is(1, x, "put", 0, 0, 49);
    due.is(1, x, "sailed", 1, 1, 1);
    is(x, 1, 0, 29, 1, 0, 0, 0);
    due.is(3, x, "sailed", 2, 1, 1);
    is(x, 3, 0, 0, 3, 0, 0, 0);
    due.is(5, x, "sailed", 2, 0, 1);
    is(x, 5, 0, 40, 5, 0, 0, 0);
    due.is(6, x, "sailed", 1, 0, 1);
    is(x, 6, 0, 50, 6, 0, 1, 0);
    due.is(7, x, "sailed", 1, 1, 1);
    is(x, 6, 0, 50, 7, 0, 1, 0);
  }

  private static void sailed() {
    NobodySails x = new NobodySails();
    due.is(Due.STATE, x, "sailed", 0, 2, 0);
    x = Due.at("sea 16 8;wind e 3;wind s 1;wind w 4;wind n 2;ship 0 0 0 9;");
    due.is(Due.STATE, x, "sailed", 1, 0, 1);
    x.put(7, 4, 0);
    due.is(Due.BAD, x, "sailed", 0, 0, 1);
    due.is(Due.BAD, x, "sailed", 101, 0, 1);
    due.is(Due.BAD, x, "sailed", 1, -1, 1);
    due.is(Due.BAD, x, "sailed", 1, 2, 1);
    due.is(Due.BAD, x, "sailed", 1, 0, 0);
    due.is(Due.BAD, x, "sailed", 1, 0, 1000000);
    due.is(Due.BAD, x, "sailed", 1, 0, -5);
    is(x, 7, 4, 0, 0, 0, 0, 0);
    for (int seed : new int[] {1, 2, 99, 4711, 123456, 999999}) {
      x.put(7, 4, 0);
      due.is(100, x, "sailed", 100, 0, seed);
      int[] at = drawn(seed, 100);
      is(x, at[0], at[1], 0, 100, 0, 0, 0);
    }
    // Each call begins anew from its seed.
    x.put(7, 4, 0);
    x.sailed(1, 0, 42);
    x.sailed(1, 1, 42);
    int[] once = drawn(42, 1);
    is(x, 7 + 2 * (once[0] - 7), 4 + 2 * (once[1] - 4), 0, 2, 0, 0, 0);
  }

  private static int[] drawn(long seed, int hours) {
    int x = 7;
    int y = 4;
    for (int i = 0; i < hours; i++) {
      seed = seed * 16807 % 2147483647;
      int rest = (int) (seed % 10);
      int nx = x + (rest < 3 ? 1 : rest >= 4 && rest < 8 ? -1 : 0);
      int ny = y + (rest == 3 ? 1 : rest >= 8 ? -1 : 0);
      if (nx >= 0 && nx < 16 && ny >= 0 && ny < 8) {
        x = nx;
        y = ny;
      }
    }
    return new int[] {x, y};
  }

  private static void blown() {
    NobodySails x = new NobodySails();
    due.is(Due.STATE, x, "blown", 9, 0, 0);
    x = Due.at("sea 9 8;wind e 3;wind s 1;ship 0 2 9 99;");
    due.is(Due.STATE, x, "blown", 9, 0, 0);
    x.put(0, 0, 0);
    due.is(Due.BAD, x, "blown", -1, 0, 1);
    due.is(Due.BAD, x, "blown", 8, 0, 1);
    due.is(Due.BAD, x, "blown", 0, 0, 0);
    due.is(Due.BAD, x, "blown", 0, 0, 41);
    due.is(Due.NULL, x, "blown", 0, -1, 40);
    due.is(4, x, "row", 0, 2, 4);
    x.set(0, 1, 1);
    x.set(0, 2, 2);
    due.is(Due.PLACE, x, "blown", 0, -1, 1);
    due.is(Due.PLACE, x, "blown", 0, 4, 1);
    due.is(Due.PLACE, x, "blown", 0, 0, 5);
    due.is(Due.PLACE, x, "blown", 0, 1, 4);
    due.is(Due.PLACE, x, "blown", 0, Integer.MAX_VALUE, 40);
    due.is(Due.PLACE, x, "blown", 0, Integer.MIN_VALUE, 40);
    due.is(Due.BAD, x, "blown", 0, 0, 3);
    due.is(Due.BAD, x, "blown", 0, 2, 1);
    x.set(0, 2, -1);
    due.is(Due.BAD, x, "blown", 0, 0, 3);
    is(x, 0, 0, 0, 0, 0, 0, 0);
    due.is(2, x, "blown", 0, 0, 2);
    is(x, 1, 1, 4, 2, 0, 0, 0);
    due.is(3, x, "blown", 0, 3, 1);
    is(x, 2, 1, 6, 3, 0, 0, 0);
    due.is(40, x, "row", 1, 0, 40);
    due.is(43, x, "blown", 1, 0, 40);
    is(x, 8, 1, 86, 43, 0, 0, 0);
  }

  private static void told() {
    NobodySails x = new NobodySails();
    due.is(Due.STATE, x, "ship", -1);
    x = Due.at("sea 4 3;wind n 1;ship 5 3 4 9;");
    due.is(Due.STATE, x, "ship", 7);
    x.put(2, 1, 4);
    due.is(Due.BAD, x, "ship", -1);
    due.is(Due.BAD, x, "ship", 7);
    is(x, 2, 1, 4, 0, 0, 0, 5);
  }
}
