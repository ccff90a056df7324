/** Promises 1 to 5 and 40: a new object, rows, and what status() tells of them. */
final class RowsTest {
  private static final Due due = new Due("RowsTest");
  private static final int MIN = Integer.MIN_VALUE;
  private static final int MAX = Integer.MAX_VALUE;

  public static void main(String[] args) {
    newObject();
    made();
    items();
    copied();
    dropped();
    statusTold();
    due.end();
  }

  private static void newObject() {
    NobodySails x = new NobodySails();
    for (int what = 0; what <= 8; what++) {
      due.is(0, x, "count", what);
    }
    due.is(0, x, "fault");
    due.is(0, x, "status");
    due.is(Due.NONE, x, "trace", 0);
    due.is(Due.STATE, x, "put", 0, 0, 0);
    for (int row = 0; row < 8; row++) {
      due.is(Due.NULL, x, "drop", row);
    }
  }

  private static void made() {
    NobodySails x = new NobodySails();
    due.is(0, x, "row", 0, 0, 0);
    due.is(40, x, "row", 7, 2, 40);
    due.is(2, x, "count", 0);
    due.is(Due.BAD, x, "row", -1, 0, 1);
    due.is(Due.BAD, x, "row", 8, 0, 1);
    due.is(Due.BAD, x, "row", MIN, 0, 1);
    due.is(Due.BAD, x, "row", 1, -1, 1);
    due.is(Due.BAD, x, "row", 1, 3, 1);
    due.is(Due.BAD, x, "row", 1, 0, 41);
    due.is(Due.BAD, x, "row", 1, 0, MAX);
    due.is(Due.SIZE, x, "row", 1, 0, -1);
    due.is(Due.SIZE, x, "row", 1, 0, MIN);
    due.is(Due.BAD, x, "row", 8, 0, -1);
    due.is(Due.BAD, x, "row", 1, 3, -1);
    due.is(2, x, "count", 0);
    due.is(9, x, "set", 7, 39, 9);
    due.is(Due.SIZE, x, "row", 7, 0, -1);
    due.is(300, x, "set", 7, 38, 300);
    due.is(5, x, "row", 7, 0, 5);
    due.is(2, x, "count", 0);
    due.is(Due.PLACE, x, "set", 7, 5, 1);
  }

  /** A row made anew holds zeros, as blown() shows: only wind 0 is there. */
  private static void items() {
    NobodySails x = Due.at("sea 9 8;wind e 1;ship 0 0 0 9;");
    x.put(0, 0, 0);
    due.is(40, x, "row", 7, 1, 40);
    for (int i = 0; i < 40; i++) {
      due.is(7, x, "set", 7, i, 7);
    }
    due.is(40, x, "row", 7, 1, 40);
    due.is(40, x, "blown", 7, 0, 40);
    due.is(40, x, "copy", 7, 0, 7, 0, 40);
    due.is(40, x, "drop", 7);

    due.is(1, x, "row", 0, 0, 1);
    due.is(127, x, "set", 0, 0, 127);
    due.is(-128, x, "set", 0, 0, 128);
    due.is(-1, x, "set", 0, 0, 255);
    due.is(0, x, "set", 0, 0, 256);
    due.is(0, x, "set", 0, 0, MIN);
    due.is(1, x, "row", 1, 1, 1);
    due.is(32767, x, "set", 1, 0, 32767);
    due.is(-32768, x, "set", 1, 0, 32768);
    due.is(-1, x, "set", 1, 0, 65535);
    due.is(0, x, "set", 1, 0, 65536);
    due.is(1, x, "row", 2, 2, 1);
    due.is(MIN, x, "set", 2, 0, MIN);
    due.is(MAX, x, "set", 2, 0, MAX);
    due.is(Due.BAD, x, "set", -1, 0, 0);
    due.is(Due.BAD, x, "set", 8, 0, 0);
    due.is(Due.NULL, x, "set", 3, -1, 0);
    due.is(Due.PLACE, x, "set", 2, -1, 0);
    due.is(Due.PLACE, x, "set", 2, 1, 0);
    due.is(Due.PLACE, x, "set", 2, MIN, 0);
    due.is(Due.PLACE, x, "set", 2, MAX, 0);
    due.is(0, x, "row", 2, 2, 0);
    due.is(Due.PLACE, x, "set", 2, 0, 0);
  }

  /** What a row holds shows in where the winds of it blow the ship. */
  private static void copied() {
    NobodySails x = Due.at("sea 16 8;wind e 1;wind s 1;wind w 1;wind n 1;ship 0 0 0 9;");
    fill(x, 0, 0, 0, 1, 1, 2, 3, 0);
    due.is(4, x, "copy", 0, 1, 0, 2, 4);
    shows(x, 0, 0, 1, 1, 1, 2, 3);
    fill(x, 0, 0, 0, 1, 1, 2, 3, 0);
    due.is(4, x, "copy", 0, 2, 0, 1, 4);
    shows(x, 0, 0, 1, 2, 3, 0, 0);
    fill(x, 1, 0, 3, 3, 3);
    due.is(2, x, "copy", 0, 2, 1, 1, 2);
    shows(x, 1, 3, 2, 3);
    shows(x, 0, 0, 1, 2, 3, 0, 0);
    due.is(0, x, "copy", 0, 6, 1, 3, 0);
    due.is(3, x, "copy", 1, 0, 0, 3, 3);
    shows(x, 0, 0, 1, 2, 3, 2, 3);

    due.is(Due.BAD, x, "copy", -1, 0, 0, 0, 0);
    due.is(Due.BAD, x, "copy", 0, 0, 8, 0, 0);
    due.is(Due.BAD, x, "copy", 8, -1, 5, -1, -1);
    due.is(Due.NULL, x, "copy", 0, -1, 5, 0, 0);
    due.is(Due.NULL, x, "copy", 5, 0, 0, 0, 99);
    due.is(3, x, "row", 2, 1, 3);
    due.is(Due.STORE, x, "copy", 0, 0, 2, 0, 1);
    due.is(Due.STORE, x, "copy", 0, -1, 2, 0, -1);
    due.is(Due.PLACE, x, "copy", 0, -1, 1, 0, 1);
    due.is(Due.PLACE, x, "copy", 0, 0, 1, -1, 1);
    due.is(Due.PLACE, x, "copy", 0, 0, 1, 0, -1);
    due.is(Due.PLACE, x, "copy", 0, 6, 1, 0, 1);
    due.is(Due.PLACE, x, "copy", 0, 0, 1, 1, 3);
    due.is(Due.PLACE, x, "copy", 0, 7, 1, 0, 0);
    due.is(Due.PLACE, x, "copy", 0, 0, 1, 4, 0);
    due.is(Due.PLACE, x, "copy", 0, MAX, 1, 0, MAX);
    due.is(Due.PLACE, x, "copy", 0, 1, 1, MAX, 1);
    due.is(Due.PLACE, x, "copy", 0, MIN, 1, MIN, MIN);
    shows(x, 0, 0, 1, 2, 3, 2, 3);
    shows(x, 1, 3, 2, 3);
  }

  private static void fill(NobodySails x, int row, int lane, int... items) {
    due.is(items.length, x, "row", row, lane, items.length);
    for (int i = 0; i < items.length; i++) {
      due.is(items[i], x, "set", row, i, items[i]);
    }
  }

  private static void shows(NobodySails x, int row, int... items) {
    int[] east = {1, 0, -1, 0};
    int[] south = {0, 1, 0, -1};
    for (int i = 0; i < items.length; i++) {
      due.is(1, x, "put", 7, 4, 0);
      due.is(1, x, "blown", row, i, 1);
      due.is(7 + east[items[i]], x, "ship", 0);
      due.is(4 + south[items[i]], x, "ship", 1);
    }
  }

  private static void dropped() {
    NobodySails x = new NobodySails();
    due.is(13, x, "row", 4, 1, 13);
    due.is(13, x, "drop", 4);
    due.is(0, x, "count", 0);
    due.is(Due.NULL, x, "drop", 4);
    due.is(Due.NULL, x, "set", 4, 0, 0);
    due.is(Due.BAD, x, "drop", -1);
    due.is(Due.BAD, x, "drop", 8);
    due.is(0, x, "row", 4, 1, 0);
    due.is(1, x, "count", 0);
    due.is(0, x, "drop", 4);
  }

  private static void statusTold() {
    NobodySails x = Due.at("sea 3 3;wind n 1;ship 0 0 0 9;sign told 1;");
    due.is(Due.NULL, x, "set", 0, 0, 0);
    due.is(1, x, "status");
    due.is(Due.BAD, x, "set", 8, 0, 0);
    due.is(Due.BAD, x, "row", 0, 0, 41);
    due.is(Due.BAD, x, "copy", 0, 0, 8, 0, 0);
    due.is(Due.BAD, x, "drop", 8);
    due.is(Due.STATE, x, "blown", 0, 0, 1);
    due.is(Due.BAD, x, "as", 1, 0);
    due.is(1, x, "status");
    due.is(Due.SIZE, x, "row", 0, 0, -1);
    due.is(4, x, "status");
    due.is(2, x, "row", 0, 0, 2);
    due.is(0, x, "status");
    due.is(Due.PLACE, x, "set", 0, 2, 0);
    due.is(2, x, "status");
    due.is(6, x, "set", 0, 0, 6);
    due.is(0, x, "status");
    due.is(2, x, "row", 1, 1, 2);
    due.is(Due.STORE, x, "copy", 0, 0, 1, 0, 1);
    due.is(5, x, "status");
    due.is(1, x, "copy", 0, 0, 0, 1, 1);
    due.is(0, x, "status");
    due.is(Due.KIND, x, "as", 0, 1);
    due.is(3, x, "status");
    due.is(6, x, "kind", 0);
    due.is(2, x, "ask", 0, 0);
    due.is(2, x, "count", 0);
    due.is(1, x, "put", 1, 1, 0);
    due.is(3, x, "status");
    due.is(Due.BAD, x, "blown", 0, 0, 1);
    due.is(3, x, "status");
    due.is(0, x, "as", 0, 6);
    due.is(0, x, "status");
    due.is(Due.NULL, x, "blown", 5, 0, 1);
    due.is(1, x, "status");
    due.is(1, x, "blown", 1, 0, 1);
    due.is(0, x, "status");
    due.is(Due.PLACE, x, "blown", 1, 2, 1);
    due.is(2, x, "status");
    due.is(2, x, "drop", 1);
    due.is(0, x, "status");
    due.is(Due.NULL, x, "drop", 1);
    due.is(1, x, "status");
  }
}
