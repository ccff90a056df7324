/** A ship that sails with nobody, the stories about her, and what can be asked of both. */
public final class NobodySails {
    public static final int NONE = -1000000;
    public static final long NOT = -9000000000000000000L;

    private static final long BAD = NOT - 1;
    private static final long STATE = NOT - 2;
    private static final long FULL = NOT - 3;

    private static final int NULL = 1;
    private static final int PLACE = 2;
    private static final int KIND = 3;
    private static final int SIZE = 4;
    private static final int STORE = 5;

    private static final int ROWS = 8;
    private static final int LANES = 3;
    private static final int MOST_ITEMS = 40;
    private static final int MOST_BYTES = 600;
    private static final int MOST_WIDE = 16;
    private static final int MOST_HIGH = 8;
    private static final int CELLS = MOST_WIDE * MOST_HIGH;
    private static final int WAYS = 8;
    private static final int MOST_WINDS = 4;
    private static final int MOST_LANDS = 12;
    private static final int MOST_MEN = 10;
    private static final int MOST_SIGNS = 10;
    private static final int MOST_STORIES = 6;
    private static final int MOST_HOURS = 8;
    private static final int MOST_INCHES = 200;
    private static final int MOST_FEAR = 50;
    private static final int MOST_SLIP = 50;
    private static final int MOST_GAIN = 9;
    private static final int IMAGES = 2;
    private static final int MOST_TRACED = 16;

    private static final int STANDING = 1;
    private static final int GONE = 2;
    private static final int LEFT = 3;
    private static final int LOGGED = 4;
    private static final int DRIFTED = 5;
    private static final int TOLD = 6;
    private static final int MADE = 7;
    private static final int KINDS = 8;

    private final Row[] rows = new Row[ROWS];
    private final Tape tape = new Tape();
    private final Reader reader = new Reader(tape);
    private final World[] images = new World[IMAGES];
    private final Drift drift = new Drift();
    private final Asker asker = new Asker();
    private World world = new World();
    // A text is read into this one, so that a fault leaves the sea that stands untouched.
    private World spare = new World();
    private int latestFault;
    private int latestFinding;

    public NobodySails() {
        for (int i = 0; i < ROWS; i++) {
            rows[i] = new Row();
        }
        for (int i = 0; i < IMAGES; i++) {
            images[i] = new World();
        }
    }

    // ---- rows

    public long row(int row, int lane, int n) {
        if (!isWithin(row, 0, ROWS - 1) || !isWithin(lane, 0, LANES - 1) || n > MOST_ITEMS) {
            return BAD;
        }
        if (n < 0) {
            return found(SIZE);
        }
        rows[row].begin(lane, n);
        return fine(n);
    }

    public long set(int row, int i, int v) {
        if (!isWithin(row, 0, ROWS - 1)) {
            return BAD;
        }
        Row changed = rows[row];
        if (changed.isMissing()) {
            return found(NULL);
        }
        if (!changed.holds(i, 1)) {
            return found(PLACE);
        }
        return fine(changed.write(i, v));
    }

    public long copy(int a, int i, int b, int j, int n) {
        if (!isWithin(a, 0, ROWS - 1) || !isWithin(b, 0, ROWS - 1)) {
            return BAD;
        }
        Row from = rows[a];
        Row to = rows[b];
        if (from.isMissing() || to.isMissing()) {
            return found(NULL);
        }
        if (from.lane != to.lane) {
            return found(STORE);
        }
        if (!from.holds(i, n) || !to.holds(j, n)) {
            return found(PLACE);
        }
        System.arraycopy(from.items, i, to.items, j, n);
        return fine(n);
    }

    public long drop(int row) {
        if (!isWithin(row, 0, ROWS - 1)) {
            return BAD;
        }
        Row dropped = rows[row];
        if (dropped.isMissing()) {
            return found(NULL);
        }
        int had = dropped.length;
        dropped.vanish();
        return fine(had);
    }

    // ---- seas, the ship

    public long feed(long w, int n) {
        if (!isWithin(n, 1, 8)) {
            return BAD;
        }
        if (tape.length + n > MOST_BYTES) {
            return FULL;
        }
        tape.append(w, n);
        return tape.length;
    }

    public long sea() {
        reader.readInto(spare);
        tape.empty();
        if (reader.fault != 0) {
            latestFault = reader.fault;
            return NOT - 100 - reader.place;
        }
        World before = world;
        world = spare;
        spare = before;
        return world.court.stories;
    }

    public int fault() {
        return latestFault;
    }

    public long put(int x, int y, int water) {
        if (!world.stands) {
            return STATE;
        }
        if (!world.waters.isInside(x, y) || !isWithin(water, 0, world.hull.deep - 1)) {
            return BAD;
        }
        int cell = x + MOST_WIDE * y;
        if (world.waters.isLand(cell)) {
            return BAD;
        }
        world.hull.launch(cell, water);
        return 1;
    }

    public long head(int h) {
        if (!world.stands) {
            return STATE;
        }
        if (!isWithin(h, 0, WAYS - 1)) {
            return BAD;
        }
        int before = world.hull.heading;
        world.hull.heading = h;
        return before;
    }

    public long sailed(int n, int manned, int seed) {
        if (!world.hull.afloat) {
            return STATE;
        }
        if (!isWithin(n, 1, 100) || !isWithin(manned, 0, 1) || !isWithin(seed, 1, 999999)) {
            return BAD;
        }
        long draw = seed;
        for (int i = 0; i < n; i++) {
            draw = draw * 16807 % 2147483647;
            world.hull.passHour(world.waters, world.waters.drawWind(draw), manned == 1);
        }
        return world.hull.hours;
    }

    public long blown(int row, int i, int n) {
        if (!world.hull.afloat) {
            return STATE;
        }
        if (!isWithin(row, 0, ROWS - 1) || !isWithin(n, 1, MOST_ITEMS)) {
            return BAD;
        }
        Row told = rows[row];
        if (told.isMissing()) {
            return found(NULL);
        }
        if (!told.holds(i, n)) {
            return found(PLACE);
        }
        if (!told.isAllWithin(i, n, world.waters.winds - 1)) {
            return BAD;
        }
        for (int k = i; k < i + n; k++) {
            world.hull.passHour(world.waters, told.items[k], false);
        }
        return fine(world.hull.hours);
    }

    public long ship(int what) {
        Hull hull = world.hull;
        if (!hull.afloat) {
            return STATE;
        }
        switch (what) {
            case 0:
                return hull.cell % MOST_WIDE;
            case 1:
                return hull.cell / MOST_WIDE;
            case 2:
                return hull.water;
            case 3:
                return hull.hours;
            case 4:
                return hull.stranded ? 1 : 0;
            case 5:
                return hull.isSunk() ? 1 : 0;
            case 6:
                return hull.heading;
            default:
                return BAD;
        }
    }

    // ---- by herself

    public long herself(int from, int to, int h, int n, int what) {
        if (!world.waters.isOpen(from) || !world.waters.isCell(to) || !isWithin(h, 0, WAYS - 1)) {
            return BAD;
        }
        if (!isWithin(n, 0, MOST_HOURS) || !isWithin(what, 0, 2)) {
            return BAD;
        }
        drift.go(world.waters, from, h, n);
        if (what == 2) {
            return drift.rowsOfWinds[to];
        }
        return partOfFraction(drift.weights[to], power(world.waters.allOdds, n), what);
    }

    public long could(int from, int to) {
        if (!world.waters.isOpen(from) || !world.waters.isCell(to)) {
            return BAD;
        }
        drift.timeArrivals(world.waters, from, to, world.hull.heading);
        int hours = 0;
        for (int n = 0; n <= MOST_HOURS; n++) {
            if (drift.arrivals[n] > 0) {
                hours |= 1 << n;
            }
        }
        return hours;
    }

    public long leftAt(int set, int from, int to) {
        if (!isSetOfHours(set) || !world.waters.isOpen(from) || !world.waters.isCell(to)) {
            return BAD;
        }
        drift.timeArrivals(world.waters, from, to, world.hull.heading);
        int likeliest = NONE;
        long most = 0;
        for (int n = 0; n <= MOST_HOURS; n++) {
            if (isIn(n, set) && drift.arrivals[n] > most) {
                most = drift.arrivals[n];
                likeliest = n;
            }
        }
        return likeliest;
    }

    public long leftOdds(int set, int from, int to, int n, int what) {
        if (!isSetOfHours(set) || !world.waters.isOpen(from) || !world.waters.isCell(to)) {
            return BAD;
        }
        if (!isWithin(n, 0, MOST_HOURS) || !isIn(n, set) || !isWithin(what, 0, 1)) {
            return BAD;
        }
        drift.timeArrivals(world.waters, from, to, world.hull.heading);
        long all = 0;
        for (int k = 0; k <= MOST_HOURS; k++) {
            if (isIn(k, set)) {
                all += drift.arrivals[k];
            }
        }
        return all == 0 ? NONE : partOfFraction(drift.arrivals[n], all, what);
    }

    public long boat(int from, int h, int n) {
        if (!world.waters.isOpen(from) || !isWithin(h, 0, WAYS - 1) || !isWithin(n, 0, MOST_HOURS)) {
            return BAD;
        }
        drift.go(world.waters, from, h, n);
        return drift.likeliestCell();
    }

    // ---- clocks, water, a bang, who leaves

    public long thought(int x, int m, int c) {
        if (!isWithin(x, -999, 999) || !isWithin(m, -99, 99) || !isWithin(c, 1, 60)) {
            return BAD;
        }
        return x + m / c;
    }

    public long seemed(int v, int s, int what) {
        if (!world.stands) {
            return STATE;
        }
        if (!isTold(v, s) || !isWithin(what, 0, 1)) {
            return BAD;
        }
        return world.hull.waterByRod(v, s, what);
    }

    public long deep(int v) {
        if (!world.stands) {
            return STATE;
        }
        if (!isWithin(v, 0, MOST_INCHES)) {
            return BAD;
        }
        return world.hull.hoursToDeep(v);
    }

    public long was(int v, int s, int t, int what) {
        if (!world.stands) {
            return STATE;
        }
        if (!isTold(v, s) || !isWithin(t, 0, 99) || !isWithin(what, 0, 1)) {
            return BAD;
        }
        return Math.max(0, world.hull.waterByRod(v, s, what) - world.hull.leak * t);
    }

    public long bang(int b, int g, int v, int m, int what) {
        if (!isWithin(b, 0, 99) || !isWithin(g, 0, 50) || !isWithin(v, 1, 999)) {
            return BAD;
        }
        if (!isWithin(m, 0, 999) || !isWithin(what, 0, 2)) {
            return BAD;
        }
        int gallons = b * g;
        int parts = gallons * 10 / v;
        if (what == 0) {
            return parts;
        }
        boolean can = isWithin(parts, 30, 190);
        boolean told = what == 1 ? can : can && gallons <= m;
        return told ? 1 : 0;
    }

    public long leave(int w, int f, int what) {
        if (!world.stands) {
            return STATE;
        }
        if (!isWithin(w, 0, MOST_INCHES) || !isWithin(f, 0, MOST_FEAR) || !isWithin(what, 0, 1)) {
            return BAD;
        }
        return world.crew.leaving(w, f, what);
    }

    public long leastWater(int f) {
        if (!world.stands) {
            return STATE;
        }
        if (!isWithin(f, 0, MOST_FEAR)) {
            return BAD;
        }
        return world.crew.leastWaterForAll(f);
    }

    // ---- signs, stories

    public long sign(int sign, int what) {
        if (!world.court.isSign(sign)) {
            return BAD;
        }
        switch (what) {
            case 0:
                return world.court.gains[sign];
            case 1:
                return world.court.storiesWith(sign, world.court.leaves);
            case 2:
                return world.court.storiesWith(sign, world.court.bars);
            default:
                return BAD;
        }
    }

    public long oath(int g) {
        if (!world.stands) {
            return STATE;
        }
        if (!isWithin(g, 0, MOST_GAIN)) {
            return BAD;
        }
        return world.court.underOath(g);
    }

    public long madeUp(int g) {
        if (!world.stands) {
            return STATE;
        }
        if (!isWithin(g, 0, MOST_GAIN)) {
            return BAD;
        }
        return world.court.inventedFor(g);
    }

    public long odds(int story, int seen, int what) {
        Court court = world.court;
        if (!court.isStory(story) || !court.isSetOfSigns(seen) || !isWithin(what, 0, 1)) {
            return BAD;
        }
        long all = 0;
        for (int k = 0; k < court.stories; k++) {
            all += court.weight(k, seen);
        }
        return partOfFraction(court.weight(story, seen), all, what);
    }

    public long likeliest(int seen) {
        if (world.court.stories == 0) {
            return STATE;
        }
        if (!world.court.isSetOfSigns(seen)) {
            return BAD;
        }
        return world.court.likeliestStory(seen);
    }

    public long lacks(int story, int seen, int what) {
        Court court = world.court;
        if (!court.isStory(story) || !court.isSetOfSigns(seen) || !isWithin(what, 0, 1)) {
            return BAD;
        }
        return what == 0 ? court.leaves[story] & ~seen : court.bars[story] & seen;
    }

    public long next(int set) {
        if (!world.stands) {
            return STATE;
        }
        if (!world.court.isSetOfSigns(set)) {
            return BAD;
        }
        return world.court.signToAskFor(set);
    }

    public long image(int k) {
        if (!isWithin(k, 0, IMAGES - 1)) {
            return BAD;
        }
        if (!world.stands) {
            return STATE;
        }
        images[k].become(world);
        return 1;
    }

    public long restore(int k) {
        if (!isWithin(k, 0, IMAGES - 1)) {
            return BAD;
        }
        if (!images[k].stands) {
            return STATE;
        }
        world.become(images[k]);
        return 1;
    }

    // ---- asked

    public long kind(int sign) {
        return world.court.isSign(sign) ? world.court.kinds[sign] : BAD;
    }

    public long as(int sign, int kind) {
        if (!world.court.isSign(sign) || !isWithin(kind, 0, KINDS - 1)) {
            return BAD;
        }
        return isKindOf(world.court.kinds[sign], kind) ? fine(sign) : found(KIND);
    }

    public long ask(int sign, int what) {
        if (!world.court.isSign(sign) || !isWithin(what, 0, 1)) {
            return BAD;
        }
        asker.begin(world.court, sign);
        return what == 0 ? asker.askSize(0) : asker.askMark(0);
    }

    public int trace(int i) {
        return isWithin(i, 0, asker.traced - 1) ? asker.bodies[i] : NONE;
    }

    public long count(int what) {
        switch (what) {
            case 0:
                return rowsThere();
            case 1:
                return world.waters.wide * world.waters.high;
            case 2:
                return world.waters.winds;
            case 3:
                return world.waters.cellsOfLand();
            case 4:
                return world.crew.men;
            case 5:
                return world.court.signs;
            case 6:
                return world.court.stories;
            case 7:
                return tape.length;
            case 8:
                return world.waters.allOdds;
            default:
                return BAD;
        }
    }

    public int status() {
        return latestFinding;
    }

    // ---- helpers

    private long found(int finding) {
        latestFinding = finding;
        return NOT - 10 - finding;
    }

    private long fine(long answer) {
        latestFinding = 0;
        return answer;
    }

    private int rowsThere() {
        int there = 0;
        for (int i = 0; i < ROWS; i++) {
            if (!rows[i].isMissing()) {
                there++;
            }
        }
        return there;
    }

    private static boolean isWithin(int v, int least, int most) {
        return v >= least && v <= most;
    }

    private static boolean isIn(int i, int set) {
        return ((set >> i) & 1) == 1;
    }

    private static boolean isSetOfHours(int set) {
        return isWithin(set, 1, (1 << (MOST_HOURS + 1)) - 1);
    }

    private static boolean isTold(int inches, int slip) {
        return isWithin(inches, 0, MOST_INCHES) && isWithin(slip, 0, MOST_SLIP);
    }

    private static boolean isKindOf(int kind, int asked) {
        return asked == 0 || asked == kind || asked == kindAbove(kind);
    }

    private static int kindAbove(int kind) {
        if (kind == DRIFTED) {
            return LOGGED;
        }
        return kind == MADE ? TOLD : 0;
    }

    private static long power(long base, int exponent) {
        long product = 1;
        for (int i = 0; i < exponent; i++) {
            product *= base;
        }
        return product;
    }

    private static long partOfFraction(long above, long below, int what) {
        if (above <= 0 || below <= 0) {
            return what == 0 ? 0 : 1;
        }
        long a = above;
        long b = below;
        // Two longs need fewer than 100 steps even if they are as bad as Fibonacci's.
        for (int i = 0; i < 100 && b != 0; i++) {
            long rest = a % b;
            a = b;
            b = rest;
        }
        if (a <= 0) {
            return what == 0 ? above : below;
        }
        return what == 0 ? above / a : below / a;
    }

    /** One of the eight rows; its items are made once, since a run's room is never given back. */
    private static final class Row {
        private static final int MISSING = -1;

        final int[] items = new int[MOST_ITEMS];
        int lane = MISSING;
        int length;

        boolean isMissing() {
            return lane == MISSING;
        }

        void begin(int newLane, int n) {
            lane = newLane;
            length = n;
            for (int i = 0; i < MOST_ITEMS; i++) {
                items[i] = 0;
            }
        }

        void vanish() {
            lane = MISSING;
            length = 0;
        }

        // length - n can't wrap: n is tested against 0 first.
        boolean holds(int i, int n) {
            return i >= 0 && n >= 0 && i <= length - n;
        }

        int write(int i, int v) {
            if (lane == 0) {
                items[i] = (byte) v;
            } else if (lane == 1) {
                items[i] = (short) v;
            } else {
                items[i] = v;
            }
            return items[i];
        }

        boolean isAllWithin(int i, int n, int most) {
            for (int k = i; k < i + n; k++) {
                if (!isWithin(items[k], 0, most)) {
                    return false;
                }
            }
            return true;
        }
    }

    /** The bytes that were fed and not yet read. */
    private static final class Tape {
        final byte[] bytes = new byte[MOST_BYTES];
        int length;

        void append(long w, int n) {
            for (int i = n - 1; i >= 0 && length < MOST_BYTES; i--) {
                bytes[length] = (byte) (w >>> (8 * i));
                length++;
            }
        }

        void empty() {
            length = 0;
        }
    }

    /** Cuts the tape into tokens, one at a time. */
    private static final class Tokens {
        static final int END = 0;
        static final int NAME = 1;
        static final int NUMBER = 2;
        static final int SEMICOLON = 3;
        static final int NO_TOKEN = 4;

        private final Tape tape;
        private int behind;
        int start;
        int sort;
        int value;

        Tokens(Tape tape) {
            this.tape = tape;
        }

        void rewind() {
            behind = 0;
            advance();
        }

        void advance() {
            start = behind;
            while (start < tape.length && isBlank(tape.bytes[start])) {
                start++;
            }
            behind = start;
            if (start >= tape.length) {
                sort = END;
            } else if (isLetter(tape.bytes[start])) {
                takeName();
            } else if (isFigure(tape.bytes[start])) {
                takeNumber();
            } else {
                sort = tape.bytes[start] == ';' ? SEMICOLON : NO_TOKEN;
                behind = start + 1;
            }
        }

        boolean isName(String word) {
            if (sort != NAME || behind - start != word.length()) {
                return false;
            }
            for (int i = 0; i < word.length(); i++) {
                if (tape.bytes[start + i] != word.charAt(i)) {
                    return false;
                }
            }
            return true;
        }

        private void takeName() {
            while (behind < tape.length && isLetter(tape.bytes[behind])) {
                behind++;
            }
            sort = NAME;
        }

        private void takeNumber() {
            value = 0;
            while (behind < tape.length && isFigure(tape.bytes[behind])) {
                value = value * 10 + (tape.bytes[behind] - '0');
                behind++;
            }
            sort = behind - start <= 3 ? NUMBER : NO_TOKEN;
        }

        private static boolean isBlank(int b) {
            return b == ' ' || b == '\n';
        }

        private static boolean isLetter(int b) {
            return b >= 'a' && b <= 'z';
        }

        private static boolean isFigure(int b) {
            return b >= '0' && b <= '9';
        }
    }

    /** Reads a text into a world. Only the first fault is kept: what comes behind it is never used. */
    private static final class Reader {
        private static final int MISPLACED = 1;
        private static final int WRONG_NUMBER = 2;
        private static final int NO_ROOM = 3;

        private final Tokens tokens;
        int fault;
        int place;

        Reader(Tape tape) {
            tokens = new Tokens(tape);
        }

        void readInto(World read) {
            fault = 0;
            place = 0;
            read.clear();
            tokens.rewind();
            readSize(read.waters);
            readWinds(read.waters);
            readLands(read.waters);
            readShip(read.hull);
            readMen(read.crew);
            readSigns(read.court);
            readStories(read.court);
            if (tokens.sort != Tokens.END) {
                fail(MISPLACED);
            }
            read.stands = fault == 0;
        }

        private void readSize(Waters waters) {
            takeWord("sea");
            int wide = takeNumber(1, MOST_WIDE);
            int high = takeNumber(1, MOST_HIGH);
            takeEnd();
            waters.measure(wide, high);
        }

        private void readWinds(Waters waters) {
            if (!tokens.isName("wind")) {
                fail(MISPLACED);
            }
            for (int i = 0; i <= MOST_WINDS && begins("wind", i, MOST_WINDS); i++) {
                int way = takeWay();
                int odds = takeNumber(1, 9);
                takeEnd();
                waters.addWind(way, odds);
            }
        }

        private void readLands(Waters waters) {
            for (int i = 0; i <= MOST_LANDS && begins("land", i, MOST_LANDS); i++) {
                int x = takeNumber(0, waters.wide - 1);
                int y = takeNumber(0, waters.high - 1);
                takeEnd();
                waters.addLand(x, y);
            }
        }

        private void readShip(Hull hull) {
            takeWord("ship");
            int heading = takeNumber(0, WAYS - 1);
            int leak = takeNumber(0, 20);
            int pump = takeNumber(0, 40);
            int deep = takeNumber(1, MOST_INCHES);
            takeEnd();
            hull.build(heading, leak, pump, deep);
        }

        private void readMen(Crew crew) {
            for (int i = 0; i <= MOST_MEN && begins("man", i, MOST_MEN); i++) {
                int water = takeNumber(1, MOST_INCHES);
                int fear = takeNumber(1, MOST_FEAR);
                takeEnd();
                crew.add(water, fear);
            }
        }

        private void readSigns(Court court) {
            for (int i = 0; i <= MOST_SIGNS && begins("sign", i, MOST_SIGNS); i++) {
                int kind = takeKind();
                int gain = takeNumber(0, MOST_GAIN);
                takeEnd();
                court.addSign(kind, gain);
            }
        }

        private void readStories(Court court) {
            for (int i = 0; i <= MOST_STORIES && begins("story", i, MOST_STORIES); i++) {
                court.addStory(takeNumber(1, 9));
                readWhatItLeaves(court);
                takeEnd();
            }
        }

        private void readWhatItLeaves(Court court) {
            for (int i = 0; i < MOST_BYTES && fault == 0; i++) {
                boolean leaves = tokens.isName("leaves");
                if (!leaves && !tokens.isName("bars")) {
                    return;
                }
                tokens.advance();
                int sign = takeNumber(0, court.signs - 1);
                if (fault == 0) {
                    court.tellOfLatest(sign, leaves);
                }
            }
        }

        /** Whether one more of a sort begins here; its word is taken then. */
        private boolean begins(String word, int soFar, int room) {
            if (fault != 0 || !tokens.isName(word)) {
                return false;
            }
            if (soFar >= room) {
                fail(NO_ROOM);
                return false;
            }
            tokens.advance();
            return true;
        }

        private void takeWord(String word) {
            if (tokens.isName(word)) {
                tokens.advance();
            } else {
                fail(MISPLACED);
            }
        }

        private int takeNumber(int least, int most) {
            if (tokens.sort != Tokens.NUMBER) {
                fail(MISPLACED);
            } else if (!isWithin(tokens.value, least, most)) {
                fail(WRONG_NUMBER);
            }
            if (fault != 0) {
                return least;
            }
            int taken = tokens.value;
            tokens.advance();
            return taken;
        }

        private void takeEnd() {
            if (tokens.sort == Tokens.SEMICOLON) {
                tokens.advance();
            } else {
                fail(MISPLACED);
            }
        }

        private int takeWay() {
            for (int way = 0; way < WAYS; way++) {
                if (tokens.isName(wayName(way))) {
                    tokens.advance();
                    return way;
                }
            }
            fail(MISPLACED);
            return 0;
        }

        private int takeKind() {
            for (int kind = STANDING; kind < KINDS; kind++) {
                if (tokens.isName(kindName(kind))) {
                    tokens.advance();
                    return kind;
                }
            }
            fail(MISPLACED);
            return STANDING;
        }

        private void fail(int number) {
            if (fault == 0) {
                fault = number;
                place = tokens.start;
            }
        }

        private static String wayName(int way) {
            switch (way) {
                case 0:
                    return "n";
                case 1:
                    return "ne";
                case 2:
                    return "e";
                case 3:
                    return "se";
                case 4:
                    return "s";
                case 5:
                    return "sw";
                case 6:
                    return "w";
                default:
                    return "nw";
            }
        }

        private static String kindName(int kind) {
            switch (kind) {
                case STANDING:
                    return "standing";
                case GONE:
                    return "gone";
                case LEFT:
                    return "left";
                case LOGGED:
                    return "logged";
                case DRIFTED:
                    return "drifted";
                case TOLD:
                    return "told";
                default:
                    return "made";
            }
        }
    }

    /** All that an image keeps: the sea and the ship. */
    private static final class World {
        final Waters waters = new Waters();
        final Hull hull = new Hull();
        final Crew crew = new Crew();
        final Court court = new Court();
        boolean stands;

        void clear() {
            stands = false;
            waters.clear();
            hull.clear();
            crew.clear();
            court.clear();
        }

        void become(World other) {
            stands = other.stands;
            waters.become(other.waters);
            hull.become(other.hull);
            crew.become(other.crew);
            court.become(other.court);
        }
    }

    /** The cells, the land among them, and the winds. */
    private static final class Waters {
        private static final int[] EAST = {0, 1, 1, 1, 0, -1, -1, -1};
        private static final int[] SOUTH = {-1, -1, 0, 1, 1, 1, 0, -1};

        private final int[] land = new int[MOST_HIGH];
        private final int[] windWays = new int[MOST_WINDS];
        private final int[] windOdds = new int[MOST_WINDS];
        int wide;
        int high;
        int winds;
        int allOdds;

        void clear() {
            wide = 0;
            high = 0;
            winds = 0;
            allOdds = 0;
            for (int y = 0; y < MOST_HIGH; y++) {
                land[y] = 0;
            }
        }

        void become(Waters other) {
            wide = other.wide;
            high = other.high;
            winds = other.winds;
            allOdds = other.allOdds;
            System.arraycopy(other.land, 0, land, 0, MOST_HIGH);
            System.arraycopy(other.windWays, 0, windWays, 0, MOST_WINDS);
            System.arraycopy(other.windOdds, 0, windOdds, 0, MOST_WINDS);
        }

        void measure(int newWide, int newHigh) {
            wide = newWide;
            high = newHigh;
        }

        void addWind(int way, int odds) {
            if (winds < MOST_WINDS) {
                windWays[winds] = way;
                windOdds[winds] = odds;
                winds++;
                allOdds += odds;
            }
        }

        void addLand(int x, int y) {
            if (isInside(x, y)) {
                land[y] |= 1 << x;
            }
        }

        boolean isInside(int x, int y) {
            return isWithin(x, 0, wide - 1) && isWithin(y, 0, high - 1);
        }

        boolean isCell(int cell) {
            return isWithin(cell, 0, CELLS - 1) && isInside(cell % MOST_WIDE, cell / MOST_WIDE);
        }

        boolean isLand(int cell) {
            return isCell(cell) && isIn(cell % MOST_WIDE, land[cell / MOST_WIDE]);
        }

        boolean isOpen(int cell) {
            return isCell(cell) && !isLand(cell);
        }

        int cellsOfLand() {
            int cells = 0;
            for (int y = 0; y < MOST_HIGH; y++) {
                cells += Integer.bitCount(land[y]);
            }
            return cells;
        }

        int drawWind(long draw) {
            if (allOdds <= 0) {
                return 0;
            }
            long rest = draw % allOdds;
            int soFar = 0;
            for (int wind = 0; wind < winds; wind++) {
                soFar += windOdds[wind];
                if (soFar > rest) {
                    return wind;
                }
            }
            return 0;
        }

        int oddsOf(int wind) {
            return isWithin(wind, 0, MOST_WINDS - 1) ? windOdds[wind] : 0;
        }

        /** Where one hour of a wind brings her; beyond the sea she stays. */
        int cellBehind(int cell, int wind, int heading) {
            if (!isWithin(wind, 0, MOST_WINDS - 1)) {
                return cell;
            }
            int way = (windWays[wind] + heading) & (WAYS - 1);
            int x = cell % MOST_WIDE + EAST[way];
            int y = cell / MOST_WIDE + SOUTH[way];
            return isInside(x, y) ? x + MOST_WIDE * y : cell;
        }
    }

    /** The ship: what she is like, and where she is if she is anywhere. */
    private static final class Hull {
        int heading;
        int leak;
        int deep;
        boolean afloat;
        int cell;
        int water;
        int hours;
        boolean stranded;
        private int pump;

        void clear() {
            build(0, 0, 0, 0);
        }

        void become(Hull other) {
            build(other.heading, other.leak, other.pump, other.deep);
            afloat = other.afloat;
            cell = other.cell;
            water = other.water;
            hours = other.hours;
            stranded = other.stranded;
        }

        void build(int newHeading, int newLeak, int newPump, int newDeep) {
            heading = newHeading;
            leak = newLeak;
            pump = newPump;
            deep = newDeep;
            launch(0, 0);
            afloat = false;
        }

        void launch(int newCell, int newWater) {
            afloat = true;
            cell = newCell;
            water = newWater;
            hours = 0;
            stranded = false;
        }

        // She is put with less water than DEEP, and at DEEP it stays: the water alone tells.
        boolean isSunk() {
            return water >= deep;
        }

        void passHour(Waters waters, int wind, boolean manned) {
            hours++;
            if (isSunk()) {
                return;
            }
            if (!stranded) {
                cell = waters.cellBehind(cell, wind, heading);
                stranded = waters.isLand(cell);
            }
            water = held(water + leak - (manned ? pump : 0));
        }

        int waterByRod(int told, int slip, int what) {
            return held(what == 0 ? told - slip : told + slip);
        }

        int hoursToDeep(int v) {
            if (v >= deep) {
                return 0;
            }
            return leak <= 0 ? NONE : (deep - v + leak - 1) / leak;
        }

        private int held(int inches) {
            return Math.max(0, Math.min(deep, inches));
        }
    }

    /** The odds and ways of where she is, hour by hour, if nobody steers. */
    private static final class Drift {
        long[] weights = new long[CELLS];
        int[] rowsOfWinds = new int[CELLS];
        private long[] nextWeights = new long[CELLS];
        private int[] nextRowsOfWinds = new int[CELLS];
        final long[] arrivals = new long[MOST_HOURS + 1];

        void go(Waters waters, int from, int heading, int n) {
            begin(from);
            for (int i = 0; i < n; i++) {
                passHour(waters, heading);
            }
        }

        /** Fills arrivals with the odds of each number of hours, all over allOdds to the eighth. */
        void timeArrivals(Waters waters, int from, int to, int heading) {
            begin(from);
            for (int n = 0; n <= MOST_HOURS; n++) {
                if (n > 0) {
                    passHour(waters, heading);
                }
                arrivals[n] = weights[to] * power(waters.allOdds, MOST_HOURS - n);
            }
        }

        int likeliestCell() {
            int likeliest = 0;
            for (int cell = 1; cell < CELLS; cell++) {
                if (weights[cell] > weights[likeliest]) {
                    likeliest = cell;
                }
            }
            return likeliest;
        }

        private void begin(int from) {
            for (int cell = 0; cell < CELLS; cell++) {
                weights[cell] = 0;
                rowsOfWinds[cell] = 0;
            }
            weights[from] = 1;
            rowsOfWinds[from] = 1;
        }

        private void passHour(Waters waters, int heading) {
            for (int cell = 0; cell < CELLS; cell++) {
                nextWeights[cell] = 0;
                nextRowsOfWinds[cell] = 0;
            }
            for (int cell = 0; cell < CELLS; cell++) {
                if (rowsOfWinds[cell] > 0) {
                    spread(waters, cell, heading);
                }
            }
            long[] oldWeights = weights;
            weights = nextWeights;
            nextWeights = oldWeights;
            int[] oldRows = rowsOfWinds;
            rowsOfWinds = nextRowsOfWinds;
            nextRowsOfWinds = oldRows;
        }

        private void spread(Waters waters, int cell, int heading) {
            boolean stranded = waters.isLand(cell);
            for (int wind = 0; wind < waters.winds; wind++) {
                int to = stranded ? cell : waters.cellBehind(cell, wind, heading);
                nextWeights[to] += weights[cell] * waters.oddsOf(wind);
                nextRowsOfWinds[to] += rowsOfWinds[cell];
            }
        }
    }

    /** Those aboard, and at how much water or fear each would leave. */
    private static final class Crew {
        private final int[] waters = new int[MOST_MEN];
        private final int[] fears = new int[MOST_MEN];
        int men;

        void clear() {
            men = 0;
        }

        void become(Crew other) {
            men = other.men;
            System.arraycopy(other.waters, 0, waters, 0, MOST_MEN);
            System.arraycopy(other.fears, 0, fears, 0, MOST_MEN);
        }

        void add(int water, int fear) {
            if (men < MOST_MEN) {
                waters[men] = water;
                fears[men] = fear;
                men++;
            }
        }

        /** Who leaves (what = 0), in how many rounds (1). */
        int leaving(int w, int f, int what) {
            int left = 0;
            int rounds = 0;
            // Somebody leaves in every round but the last, so there are no more than this.
            for (int i = 0; i < MOST_MEN; i++) {
                int now = leavingBeside(left, w, f);
                if (now == left) {
                    break;
                }
                left = now;
                rounds++;
            }
            return what == 0 ? left : rounds;
        }

        int leastWaterForAll(int f) {
            int all = (1 << men) - 1;
            if (men == 0) {
                return NONE;
            }
            if (leaving(1, f, 0) == all) {
                return 1;
            }
            // Who leaves changes only where the water comes to somebody's mark.
            int least = NONE;
            for (int man = 0; man < men; man++) {
                boolean isLess = least == NONE || waters[man] < least;
                if (isLess && leaving(waters[man], f, 0) == all) {
                    least = waters[man];
                }
            }
            return least;
        }

        private int leavingBeside(int left, int w, int f) {
            int fear = f + Integer.bitCount(left);
            int leaving = left;
            for (int man = 0; man < men; man++) {
                if (waters[man] <= w || fears[man] <= fear) {
                    leaving |= 1 << man;
                }
            }
            return leaving;
        }
    }

    /** The signs, and the stories with the signs that they leave and bar. */
    private static final class Court {
        final int[] kinds = new int[MOST_SIGNS];
        final int[] gains = new int[MOST_SIGNS];
        final int[] leaves = new int[MOST_STORIES];
        final int[] bars = new int[MOST_STORIES];
        private final int[] storyOdds = new int[MOST_STORIES];
        int signs;
        int stories;

        void clear() {
            signs = 0;
            stories = 0;
        }

        void become(Court other) {
            signs = other.signs;
            stories = other.stories;
            System.arraycopy(other.kinds, 0, kinds, 0, MOST_SIGNS);
            System.arraycopy(other.gains, 0, gains, 0, MOST_SIGNS);
            System.arraycopy(other.leaves, 0, leaves, 0, MOST_STORIES);
            System.arraycopy(other.bars, 0, bars, 0, MOST_STORIES);
            System.arraycopy(other.storyOdds, 0, storyOdds, 0, MOST_STORIES);
        }

        void addSign(int kind, int gain) {
            if (signs < MOST_SIGNS) {
                kinds[signs] = kind;
                gains[signs] = gain;
                signs++;
            }
        }

        void addStory(int odds) {
            if (stories < MOST_STORIES) {
                storyOdds[stories] = odds;
                leaves[stories] = 0;
                bars[stories] = 0;
                stories++;
            }
        }

        void tellOfLatest(int sign, boolean isLeft) {
            if (stories == 0 || !isSign(sign)) {
                return;
            }
            int latest = stories - 1;
            int bit = 1 << sign;
            leaves[latest] = isLeft ? leaves[latest] | bit : leaves[latest] & ~bit;
            bars[latest] = isLeft ? bars[latest] & ~bit : bars[latest] | bit;
        }

        boolean isSign(int sign) {
            return isWithin(sign, 0, signs - 1);
        }

        boolean isStory(int story) {
            return isWithin(story, 0, stories - 1);
        }

        boolean isSetOfSigns(int set) {
            return isWithin(set, 0, (1 << signs) - 1);
        }

        int storiesWith(int sign, int[] signsOfStories) {
            int with = 0;
            for (int story = 0; story < stories && story < signsOfStories.length; story++) {
                if (isIn(sign, signsOfStories[story])) {
                    with |= 1 << story;
                }
            }
            return with;
        }

        int underOath(int g) {
            int set = 0;
            for (int sign = 0; sign < signs; sign++) {
                if (kinds[sign] != MADE && gains[sign] <= g) {
                    set |= 1 << sign;
                }
            }
            return set;
        }

        int inventedFor(int g) {
            int set = 0;
            for (int sign = 0; sign < signs; sign++) {
                if (kinds[sign] == MADE || (kinds[sign] == TOLD && gains[sign] > g)) {
                    set |= 1 << sign;
                }
            }
            return set;
        }

        long weight(int story, int seen) {
            if (!isStory(story)) {
                return 0;
            }
            long weight = storyOdds[story];
            for (int sign = 0; sign < signs; sign++) {
                boolean isLeft = isIn(sign, leaves[story]);
                if (!isIn(sign, seen)) {
                    weight *= isLeft ? 1 : 2;
                } else if (isIn(sign, bars[story])) {
                    weight = 0;
                } else {
                    weight *= isLeft ? 4 : 2;
                }
            }
            return weight;
        }

        int likeliestStory(int seen) {
            int likeliest = NONE;
            long most = 0;
            for (int story = 0; story < stories; story++) {
                long weight = weight(story, seen);
                if (weight > most) {
                    most = weight;
                    likeliest = story;
                }
            }
            return likeliest;
        }

        int signToAskFor(int set) {
            int best = NONE;
            int mostPairs = -1;
            for (int sign = 0; sign < signs; sign++) {
                int leavers = Integer.bitCount(storiesWith(sign, leaves));
                int pairs = leavers * Integer.bitCount(storiesWith(sign, bars));
                if (!isIn(sign, set) && pairs > mostPairs) {
                    mostPairs = pairs;
                    best = sign;
                }
            }
            return best;
        }
    }

    /** The asks of one sign, by bodies that write themselves into the trace as they begin. */
    private static final class Asker {
        // Only GONE ones ask for MARK within SIZE, and their MARK asks for nothing: one ask
        // within another is all there can be.
        private static final int DEEPEST = 1;

        final int[] bodies = new int[MOST_TRACED];
        int traced;
        private int number;
        private int kind;
        private int gain;
        private int storiesThatLeave;

        void begin(Court court, int sign) {
            traced = 0;
            if (court.isSign(sign)) {
                number = sign;
                kind = court.kinds[sign];
                gain = court.gains[sign];
                storiesThatLeave = Integer.bitCount(court.storiesWith(sign, court.leaves));
            }
        }

        long askSize(int depth) {
            if (depth > DEEPEST) {
                return 0;
            }
            switch (kind) {
                case GONE:
                    return body11(depth);
                case DRIFTED:
                    return body12();
                case TOLD:
                    return body13();
                case MADE:
                    return body14();
                default:
                    return body10();
            }
        }

        long askMark(int depth) {
            if (depth > DEEPEST) {
                return 0;
            }
            switch (kind) {
                case LEFT:
                    return body24(depth);
                case LOGGED:
                    return body21(depth);
                case DRIFTED:
                    return body22(depth);
                case MADE:
                    return body23();
                default:
                    return body20();
            }
        }

        private void write(int body) {
            if (traced < MOST_TRACED) {
                bodies[traced] = body;
                traced++;
            }
        }

        private long body10() {
            write(10);
            return gain;
        }

        private long body11(int depth) {
            write(11);
            return body10() + askMark(depth + 1);
        }

        private long body12() {
            write(12);
            return 10 * body10();
        }

        private long body13() {
            write(13);
            return body10() + 1;
        }

        private long body14() {
            write(14);
            return 0 - body13();
        }

        private long body20() {
            write(20);
            return number;
        }

        private long body21(int depth) {
            write(21);
            return body20() + askSize(depth + 1);
        }

        private long body22(int depth) {
            write(22);
            return body21(depth) + 100;
        }

        private long body23() {
            write(23);
            return body20() + storiesThatLeave;
        }

        private long body24(int depth) {
            write(24);
            return body20() - askSize(depth + 1);
        }
    }
}
