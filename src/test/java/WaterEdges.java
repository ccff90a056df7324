/** Promises 19 to 25, with the terms of CLOCK, WATER, BANG and LEAVE, sentence by sentence. */
final class WaterEdges {
  private static final int MIN = Integer.MIN_VALUE;
  private static final int MAX = Integer.MAX_VALUE;
  private static final String SHIP = "sea 1 1;wind n 1;ship 0 4 9 60;";
  private static final String TIGHT = "sea 1 1;wind n 1;ship 0 0 9 60;";
  private static final long[] NO_INCHES = {-1, 201, MIN, MAX};
  private static final long[] NO_FEAR = {-1, 51, MIN, MAX};
  private static final long[] NO_ONE = {-1, 2, MIN, MAX};

  private final Sentences s;

  private WaterEdges(Sentences s) {
    this.s = s;
  }

  static void all(Sentences s) {
    WaterEdges edges = new WaterEdges(s);
    edges.clock();
    edges.rod();
    edges.hours();
    edges.ago();
    edges.bangTerms();
    edges.bang();
    edges.leaveTerms();
    edges.leave();
    edges.leastWater();
  }

  private void clock() {
    s.says(Sentences.TERMS, "All that is divided is cut towards 0,");
    s.anew();
    s.is(3, "thought", 0, 7, 2);
    s.is(-3, "thought", 0, -7, 2);
    s.is(0, "thought", 0, -1, 60);
    s.is(0, "thought", 0, 1, 2);
    s.is(29, "bang", 59, 1, 20, 0, 0);

    s.says(Sentences.TERMS, "CLOCK: wrong by m minutes (-99 to 99),");
    s.is(99, "thought", 0, 99, 1);
    s.is(-99, "thought", 0, -99, 1);
    s.is(0, "thought", 0, 0, 1);
    s.badAt(1, new long[] {100, -100, MIN, MAX}, "thought", 0, 0, 1);

    s.says(Sentences.TERMS, "a cell is c minutes (1 to 60) wide:");
    s.is(61, "thought", 0, 61, 1);
    s.is(1, "thought", 0, 60, 60);
    s.is(0, "thought", 0, 59, 60);
    s.badAt(2, new long[] {0, -1, 61, MIN, MAX}, "thought", 0, 60, 1);

    s.says(Sentences.TERMS, "where they thought they were: x, and besides what m by c is (cut).");
    s.is(8, "thought", 5, 7, 2);
    s.is(2, "thought", 5, -7, 2);
    s.is(-8, "thought", -5, -7, 2);
    s.is(-2, "thought", -5, 7, 2);
    s.is(5, "thought", 5, -59, 60);
    s.is(4, "thought", 5, -60, 60);
    s.is(-5, "thought", -5, 59, 60);

    s.says(19, "CLOCK: where they thought x was (-999 to 999).");
    s.is(1098, "thought", 999, 99, 1);
    s.is(-1098, "thought", -999, -99, 1);
    s.is(999, "thought", 999, 0, 60);
    s.is(-999, "thought", -999, 59, 60);
    s.at(SHIP);
    s.is(999, "thought", 999, 0, 60);

    s.says(19, "BAD.");
    s.badAt(0, new long[] {1000, -1000, MIN, MAX}, "thought", 0, 0, 1);
    s.badAt(1, new long[] {100, -100}, "thought", 0, 0, 1);
    s.badAt(2, new long[] {0, 61}, "thought", 0, 0, 1);
    s.anew();
    s.bad("thought", 1000, 0, 1);
  }

  private void seems(int v, int t, long from, long to) {
    s.is(from, "seemed", v, t, 0);
    s.is(to, "seemed", v, t, 1);
  }

  private void rod() {
    s.says(Sentences.TERMS, "WATER by a rod: told v inches with a slip of s: SEEMED from v less s to v and s,");
    s.at(SHIP);
    seems(42, 6, 36, 48);
    seems(42, 0, 42, 42);
    seems(1, 1, 0, 2);
    seems(59, 1, 58, 60);

    s.says(Sentences.TERMS, "to v and s, 0 at least, DEEP at most.");
    seems(5, 6, 0, 11);
    seems(0, 50, 0, 50);
    seems(59, 2, 57, 60);
    seems(60, 0, 60, 60);
    seems(61, 0, 60, 60);
    seems(200, 50, 60, 60);
    seems(100, 50, 50, 60);
    seems(30, 50, 0, 60);

    s.says(20, "SEEMED, v 0 to 200, s 0 to 50: from (what = 0), to (1).");
    s.at("sea 1 1;wind n 1;ship 0 4 9 200;");
    seems(0, 0, 0, 0);
    seems(200, 0, 200, 200);
    seems(100, 50, 50, 150);
    seems(200, 50, 150, 200);

    s.says(20, "BAD;");
    s.badAt(0, NO_INCHES, "seemed", 0, 0, 0);
    s.badAt(1, new long[] {-1, 51, MIN, MAX}, "seemed", 0, 0, 0);
    s.badAt(2, NO_ONE, "seemed", 0, 0, 0);

    s.says(20, "STATE: no SEA (ahead of BAD).");
    s.anew();
    s.is(Due.STATE, "seemed", 0, 0, 0);
    s.is(Due.STATE, "seemed", 201, 51, 2);
    s.is(Due.STATE, "seemed", -1, -1, -1);
  }

  private void hours() {
    s.says(Sentences.TERMS, "HOURS to DEEP from v, not manned: (DEEP less v) by LEAK, up to a whole one;");
    s.at(SHIP);
    s.is(15, "deep", 0);
    s.is(15, "deep", 3);
    s.is(14, "deep", 4);
    s.is(2, "deep", 55);
    s.is(1, "deep", 56);
    s.is(1, "deep", 59);
    // As long as she is sailed until SUNK.
    s.is(1, "put", 0, 0, 55);
    s.is(1, "sailed", 1, 0, 1);
    s.is(0, "ship", 5);
    s.is(2, "sailed", 1, 0, 1);
    s.is(1, "ship", 5);
    s.at("sea 1 1;wind n 1;ship 0 1 0 200;");
    s.is(200, "deep", 0);
    s.is(1, "deep", 199);
    s.at("sea 1 1;wind n 1;ship 0 20 0 1;");
    s.is(1, "deep", 0);

    s.says(Sentences.TERMS, "NONE: LEAK is 0.");
    s.at(TIGHT);
    s.is(Due.NONE, "deep", 0);
    s.is(Due.NONE, "deep", 59);

    s.says(21, "HOURS to DEEP from v (0 to 200; 0, if it is there);");
    s.is(0, "deep", 60);
    s.is(0, "deep", 61);
    s.is(0, "deep", 200);
    s.at(SHIP);
    s.is(0, "deep", 60);
    s.is(0, "deep", 200);
    s.is(15, "deep", 0);

    s.says(21, "NONE.");
    s.at(TIGHT);
    s.is(Due.NONE, "deep", 30);

    s.says(21, "BAD;");
    s.badAt(0, NO_INCHES, "deep", 0);
    s.at(SHIP);
    s.badAt(0, NO_INCHES, "deep", 0);

    s.says(21, "STATE: no SEA (ahead of BAD).");
    s.anew();
    s.is(Due.STATE, "deep", 0);
    s.is(Due.STATE, "deep", 201);
    s.is(Due.STATE, "deep", -1);
  }

  private void wasIn(int v, int slip, int t, long least, long most) {
    s.is(least, "was", v, slip, t, 0);
    s.is(most, "was", v, slip, t, 1);
  }

  private void ago() {
    s.says(Sentences.TERMS, "BY HOURS: how much was in her t HOURS ago at least, at most (by SEEMED, less LEAK each hour,");
    s.at(SHIP);
    wasIn(42, 6, 0, 36, 48);
    wasIn(42, 6, 1, 32, 44);
    wasIn(42, 6, 9, 0, 12);
    // By what it SEEMED, DEEP at most, not by what was told.
    wasIn(200, 50, 1, 56, 56);
    wasIn(59, 9, 1, 46, 56);

    s.says(Sentences.TERMS, "0 at least; not manned).");
    wasIn(42, 6, 10, 0, 8);
    wasIn(42, 6, 12, 0, 0);
    wasIn(42, 6, 13, 0, 0);
    wasIn(0, 6, 1, 0, 2);
    wasIn(200, 0, 99, 0, 0);
    s.at(TIGHT);
    wasIn(42, 6, 99, 36, 48);

    s.says(22, "BY HOURS: t (0 to 99) HOURS ago: at least (what = 0), at most (1).");
    s.at("sea 1 1;wind n 1;ship 0 1 40 200;");
    wasIn(200, 0, 99, 101, 101);
    wasIn(150, 50, 99, 1, 101);
    wasIn(0, 0, 0, 0, 0);

    s.says(22, "BAD;");
    s.badAt(0, NO_INCHES, "was", 0, 0, 0, 0);
    s.badAt(1, new long[] {-1, 51, MIN, MAX}, "was", 0, 0, 0, 0);
    s.badAt(2, new long[] {-1, 100, MIN, MAX}, "was", 0, 0, 0, 0);
    s.badAt(3, NO_ONE, "was", 0, 0, 0, 0);

    s.says(22, "STATE: no SEA (ahead of BAD).");
    s.anew();
    s.is(Due.STATE, "was", 0, 0, 0, 0);
    s.is(Due.STATE, "was", 201, 51, 100, 2);
  }

  private void bangs(int b, int g, int v, int m, long parts, long can, long without) {
    s.is(parts, "bang", b, g, v, m, 0);
    s.is(can, "bang", b, g, v, m, 1);
    s.is(without, "bang", b, g, v, m, 2);
  }

  private void bangTerms() {
    s.says(Sentences.TERMS, "BANG: b barrels (0 to 99) that leaked g gallons each (0 to 50) into a hold of v (1 to 999) "
        + "hundreds of cubic feet:");
    s.anew();
    s.is(49500, "bang", 99, 50, 1, 0, 0);
    s.is(49, "bang", 99, 50, 999, 0, 0);
    s.is(0, "bang", 0, 50, 1, 0, 0);
    s.is(0, "bang", 99, 0, 1, 0, 0);
    s.badAt(0, new long[] {-1, 100, MIN, MAX}, "bang", 0, 0, 1, 0, 0);
    s.badAt(1, new long[] {-1, 51, MIN, MAX}, "bang", 0, 0, 1, 0, 0);
    s.badAt(2, new long[] {0, -1, 1000, MIN, MAX}, "bang", 0, 0, 1, 0, 0);

    s.says(Sentences.TERMS, "PARTS in a thousand: b times g times 10 by v (cut).");
    s.is(45, "bang", 9, 5, 10, 0, 0);
    s.is(40, "bang", 9, 5, 11, 0, 0);
    s.is(0, "bang", 1, 1, 11, 0, 0);
    s.is(1, "bang", 1, 1, 10, 0, 0);
    s.is(10, "bang", 1, 1, 1, 0, 0);

    s.says(Sentences.TERMS, "CAN: from 30 to 190.");
    s.is(0, "bang", 29, 1, 10, 0, 1);
    s.is(1, "bang", 30, 1, 10, 0, 1);
    s.is(1, "bang", 19, 10, 10, 0, 1);
    // 190 and some are still 190, cut; 29 and some are 29.
    s.is(1, "bang", 99, 50, 260, 0, 1);
    s.is(0, "bang", 99, 50, 259, 0, 1);
    s.is(0, "bang", 59, 1, 20, 0, 1);
    s.is(0, "bang", 0, 0, 1, 0, 1);

    s.says(Sentences.TERMS, "WITHOUT a MARK: CAN, and b times g at most m (0 to 999).");
    bangs(30, 1, 10, 30, 30, 1, 1);
    bangs(30, 1, 10, 29, 30, 1, 0);
    bangs(3, 1, 1, 999, 30, 1, 1);
    bangs(3, 1, 1, 0, 30, 1, 0);
    bangs(0, 0, 1, 0, 0, 0, 0);
    bangs(29, 1, 10, 999, 29, 0, 0);
    bangs(27, 37, 100, 999, 99, 1, 1);
    bangs(20, 50, 100, 999, 100, 1, 0);
    s.badAt(3, new long[] {-1, 1000, MIN, MAX}, "bang", 0, 0, 1, 0, 2);
  }

  private void bang() {
    s.says(23, "BANG: PARTS (what = 0), CAN (1: 1, 0), WITHOUT a MARK (2).");
    s.anew();
    bangs(9, 5, 10, 45, 45, 1, 1);
    bangs(9, 5, 10, 44, 45, 1, 0);
    bangs(9, 5, 100, 45, 4, 0, 0);
    s.at(SHIP);
    bangs(9, 5, 10, 45, 45, 1, 1);

    s.says(23, "BAD.");
    s.badAt(0, new long[] {-1, 100}, "bang", 9, 5, 10, 45, 1);
    s.badAt(1, new long[] {-1, 51}, "bang", 9, 5, 10, 45, 1);
    s.badAt(2, new long[] {0, 1000}, "bang", 9, 5, 10, 45, 1);
    s.badAt(3, new long[] {-1, 1000}, "bang", 9, 5, 10, 45, 0);
    s.badAt(4, new long[] {-1, 3, MIN, MAX}, "bang", 9, 5, 10, 45, 0);
  }

  private void leaves(int w, int f, long who, long rounds) {
    s.is(who, "leave", w, f, 0);
    s.is(rounds, "leave", w, f, 1);
  }

  private void leaveTerms() {
    s.says(Sentences.TERMS, "LEAVE at WATER w and FEAR f: those whose WATER is w or less,");
    s.at(SHIP + "man 20 50;man 30 50;man 30 50;");
    leaves(19, 0, 0, 0);
    leaves(20, 0, 1, 1);
    leaves(29, 0, 1, 1);
    leaves(30, 0, 7, 1);
    leaves(200, 0, 7, 1);

    s.says(Sentences.TERMS, "or whose FEAR is no more than f and how many left already;");
    s.at(SHIP + "man 100 5;man 100 6;man 100 8;");
    leaves(0, 4, 0, 0);
    leaves(0, 5, 3, 2);
    leaves(0, 6, 7, 2);
    leaves(0, 7, 7, 2);
    leaves(0, 8, 7, 1);

    s.says(Sentences.TERMS, "round by round, all at once, till none more does:");
    // The one of more FEAR stands first, and counts only from the next round on.
    s.at(SHIP + "man 100 3;man 100 2;man 100 1;");
    leaves(0, 1, 7, 3);
    s.at(SHIP + "man 100 1;man 100 2;man 100 3;");
    leaves(0, 1, 7, 3);
    s.at(SHIP + "man 100 1;man 100 2;man 100 4;");
    leaves(0, 1, 3, 2);

    s.says(Sentences.TERMS, "who (bits), how many rounds in which some left.");
    s.at(SHIP);
    leaves(200, 50, 0, 0);
    StringBuilder ten = new StringBuilder(SHIP);
    for (int man = 0; man < 10; man++) {
      ten.append("man 200 ").append(man + 1).append(';');
    }
    s.at(ten.toString());
    leaves(199, 0, 0, 0);
    leaves(199, 1, 1023, 10);
    leaves(199, 2, 1023, 5);
    leaves(199, 10, 1023, 1);
    leaves(200, 0, 1023, 1);

    s.says(Sentences.TERMS, "LEAST WATER (1 to 200, FEAR f) at which all leave; NONE.");
    s.is(200, "leastWater", 0);
    s.is(1, "leastWater", 1);
    s.at(SHIP + "man 1 50;");
    s.is(1, "leastWater", 0);
    s.is(1, "leastWater", 50);
    s.at(SHIP + "man 2 50;man 200 2;man 3 50;");
    s.is(3, "leastWater", 0);
    s.is(3, "leastWater", 1);
    s.at(SHIP + "man 2 50;man 200 1;");
    s.is(2, "leastWater", 0);
    s.at(SHIP);
    s.is(Due.NONE, "leastWater", 50);
  }

  private void leave() {
    s.says(24, "LEAVE at WATER (0 to 200) and FEAR (0 to 50): who (what = 0), how many rounds (1).");
    s.at(SHIP + "man 200 50;man 1 50;man 200 49;");
    leaves(0, 0, 0, 0);
    leaves(0, 48, 0, 0);
    leaves(0, 49, 7, 2);
    leaves(0, 50, 7, 1);
    leaves(200, 0, 7, 1);
    leaves(1, 0, 2, 1);
    leaves(1, 48, 7, 3);

    s.says(24, "BAD;");
    s.badAt(0, NO_INCHES, "leave", 0, 0, 0);
    s.badAt(1, NO_FEAR, "leave", 0, 0, 0);
    s.badAt(2, NO_ONE, "leave", 0, 0, 0);

    s.says(24, "STATE: no SEA (ahead of BAD).");
    s.anew();
    s.is(Due.STATE, "leave", 0, 0, 0);
    s.is(Due.STATE, "leave", 201, 51, 2);
  }

  private void leastWater() {
    s.says(25, "LEAST WATER; NONE: also no MEN.");
    s.at(SHIP + "man 20 50;man 30 2;man 40 9;");
    s.is(40, "leastWater", 0);
    s.is(40, "leastWater", 6);
    s.is(20, "leastWater", 7);
    s.is(20, "leastWater", 47);
    s.is(1, "leastWater", 48);
    s.at(SHIP);
    s.is(Due.NONE, "leastWater", 0);
    s.is(Due.NONE, "leastWater", 50);

    s.says(25, "BAD;");
    s.badAt(0, NO_FEAR, "leastWater", 0);
    s.at(SHIP + "man 1 1;");
    s.badAt(0, NO_FEAR, "leastWater", 0);

    s.says(25, "STATE: no SEA (ahead of BAD).");
    s.anew();
    s.is(Due.STATE, "leastWater", 0);
    s.is(Due.STATE, "leastWater", 51);
    s.is(Due.STATE, "leastWater", -1);
  }
}
