import java.math.BigInteger;
import java.util.ArrayList;
import java.util.Arrays;
import java.util.List;
import java.util.regex.Matcher;
import java.util.regex.Pattern;

/**
 * The document once more, as plainly as can be and with no eye to time or room, written apart from
 * the class: every call as there, so that both can be asked the same and compared.
 */
final class Model {
  private static final long NONE = -1000000;
  private static final long NOT = -9000000000000000000L;
  private static final int NULL = 1;
  private static final int PLACE = 2;
  private static final int KIND = 3;
  private static final int SIZE = 4;
  private static final int STORE = 5;
  private static final List<String> WAYS = List.of("n", "ne", "e", "se", "s", "sw", "w", "nw");
  private static final List<String> WHATS = List.of("", "standing", "gone", "left", "logged", "drifted", "told", "made");

  /** An answer that refuses, thrown from wherever it is found. */
  private static final class Refused extends RuntimeException {
    private static final long serialVersionUID = 1;
    final long answer;

    Refused(long answer) {
      super(null, null, false, false);
      this.answer = answer;
    }
  }

  private record Wind(int way, int odds) {
  }

  private record Cell(int x, int y) {
    int number() {
      return x + 16 * y;
    }
  }

  private record Man(int water, int fear) {
  }

  private record Sign(int kind, int gain) {
  }

  private record Story(int odds, String[] says) {
    boolean leaves(int sign) {
      return "leaves".equals(says[sign]);
    }

    boolean bars(int sign) {
      return "bars".equals(says[sign]);
    }
  }

  private static final class Sea implements Cloneable {
    int wide;
    int high;
    final List<Wind> winds = new ArrayList<>();
    final List<Cell> lands = new ArrayList<>();
    int head;
    int leak;
    int pump;
    int deep;
    final List<Man> men = new ArrayList<>();
    final List<Sign> signs = new ArrayList<>();
    final List<Story> stories = new ArrayList<>();
    Cell place;
    int water;
    int hour;
    boolean stranded;
    boolean sunk;

    /** What is read is never changed, so that only the ship is to be held apart. */
    Sea copied() {
      try {
        return (Sea) clone();
      } catch (CloneNotSupportedException e) {
        throw new IllegalStateException(e);
      }
    }

    int allOdds() {
      return winds.stream().mapToInt(Wind::odds).sum();
    }

    boolean has(Cell c) {
      return c.x >= 0 && c.y >= 0 && c.x < wide && c.y < high;
    }

    Cell gone(Cell from, Wind wind, int heading) {
      String way = WAYS.get((wind.way + heading) % 8);
      int x = from.x + (way.endsWith("e") ? 1 : way.endsWith("w") ? -1 : 0);
      int y = from.y + (way.startsWith("s") ? 1 : way.startsWith("n") ? -1 : 0);
      Cell to = new Cell(x, y);
      return has(to) ? to : from;
    }

    void hourOf(Wind wind, boolean manned) {
      hour++;
      if (sunk) {
        return;
      }
      if (!stranded) {
        place = gone(place, wind, head);
        stranded = lands.contains(place);
      }
      water += leak - (manned ? pump : 0);
      water = water < 0 ? 0 : water > deep ? deep : water;
      sunk = water == deep;
    }
  }

  private final int[][] rows = new int[8][];
  private final int[] lanes = new int[8];
  private final List<Byte> tape = new ArrayList<>();
  private final Sea[] images = new Sea[2];
  private final List<Integer> traced = new ArrayList<>();
  private Sea sea;
  private int fault;
  private int status;

  // ---- refusals

  private static void bad(boolean is) {
    if (is) {
      throw new Refused(NOT - 1);
    }
  }

  private static void state(boolean is) {
    if (is) {
      throw new Refused(NOT - 2);
    }
  }

  private void finding(boolean is, int number) {
    if (is) {
      status = number;
      throw new Refused(NOT - 10 - number);
    }
  }

  private static boolean off(long v, long least, long most) {
    return v < least || v > most;
  }

  private long fine(long answer) {
    status = 0;
    return answer;
  }

  /** One call by its name. */
  long call(String name, long... a) {
    int[] i = Arrays.stream(a).mapToInt(v -> (int) v).toArray();
    try {
      return switch (name) {
        case "row" -> row(i[0], i[1], i[2]);
        case "set" -> set(i[0], i[1], i[2]);
        case "copy" -> copy(i[0], i[1], i[2], i[3], i[4]);
        case "drop" -> drop(i[0]);
        case "feed" -> feed(a[0], i[1]);
        case "sea" -> sea();
        case "fault" -> fault;
        case "put" -> put(i[0], i[1], i[2]);
        case "head" -> head(i[0]);
        case "sailed" -> sailed(i[0], i[1], i[2]);
        case "blown" -> blown(i[0], i[1], i[2]);
        case "ship" -> ship(i[0]);
        case "herself" -> herself(i[0], i[1], i[2], i[3], i[4]);
        case "could" -> could(i[0], i[1]);
        case "leftAt" -> leftAt(i[0], i[1], i[2]);
        case "leftOdds" -> leftOdds(i[0], i[1], i[2], i[3], i[4]);
        case "boat" -> boat(i[0], i[1], i[2]);
        default -> callMore(name, i);
      };
    } catch (Refused refused) {
      return refused.answer;
    }
  }

  private long callMore(String name, int[] i) {
    return switch (name) {
      case "thought" -> thought(i[0], i[1], i[2]);
      case "seemed" -> seemed(i[0], i[1], i[2]);
      case "deep" -> deep(i[0]);
      case "was" -> was(i[0], i[1], i[2], i[3]);
      case "bang" -> bang(i[0], i[1], i[2], i[3], i[4]);
      case "leave" -> leave(i[0], i[1], i[2]);
      case "leastWater" -> leastWater(i[0]);
      case "sign" -> sign(i[0], i[1]);
      case "oath" -> oath(i[0]);
      case "madeUp" -> madeUp(i[0]);
      case "odds" -> odds(i[0], i[1], i[2]);
      case "likeliest" -> likeliest(i[0]);
      case "lacks" -> lacks(i[0], i[1], i[2]);
      case "next" -> next(i[0]);
      case "image" -> image(i[0]);
      case "restore" -> restore(i[0]);
      case "kind" -> signOf(i[0]).kind;
      case "as" -> as(i[0], i[1]);
      case "ask" -> ask(i[0], i[1]);
      case "trace" -> i[0] >= 0 && i[0] < traced.size() ? traced.get(i[0]) : NONE;
      case "count" -> count(i[0]);
      case "status" -> status;
      default -> throw new IllegalStateException(name);
    };
  }

  // ---- rows

  private long row(int row, int lane, int n) {
    bad(off(row, 0, 7) || off(lane, 0, 2) || n > 40);
    finding(n < 0, SIZE);
    rows[row] = new int[n];
    lanes[row] = lane;
    return fine(n);
  }

  private long set(int row, int i, int v) {
    bad(off(row, 0, 7));
    finding(rows[row] == null, NULL);
    finding(off(i, 0, rows[row].length - 1), PLACE);
    int idle = lanes[row] == 0 ? 24 : lanes[row] == 1 ? 16 : 0;
    rows[row][i] = v << idle >> idle;
    return fine(rows[row][i]);
  }

  private long copy(int a, int i, int b, int j, int n) {
    bad(off(a, 0, 7) || off(b, 0, 7));
    finding(rows[a] == null || rows[b] == null, NULL);
    finding(lanes[a] != lanes[b], STORE);
    finding(i < 0 || j < 0 || n < 0 || (long) i + n > rows[a].length || (long) j + n > rows[b].length, PLACE);
    int[] before = rows[a].clone();
    for (int k = 0; k < n; k++) {
      rows[b][j + k] = before[i + k];
    }
    return fine(n);
  }

  private long drop(int row) {
    bad(off(row, 0, 7));
    finding(rows[row] == null, NULL);
    int had = rows[row].length;
    rows[row] = null;
    return fine(had);
  }

  // ---- seas, the ship

  private long feed(long w, int n) {
    bad(off(n, 1, 8));
    if (tape.size() + n > 600) {
      throw new Refused(NOT - 3);
    }
    for (int k = n - 1; k >= 0; k--) {
      tape.add((byte) (w >> 8 * k));
    }
    return tape.size();
  }

  private long sea() {
    StringBuilder text = new StringBuilder();
    for (byte b : tape) {
      text.append((char) (b & 255));
    }
    tape.clear();
    Text read = new Text(text.toString());
    Sea next = read.whole();
    if (next == null) {
      fault = read.fault;
      return NOT - 100 - read.place;
    }
    sea = next;
    return sea.stories.size();
  }

  private long put(int x, int y, int water) {
    state(sea == null);
    Cell to = new Cell(x, y);
    bad(!sea.has(to) || sea.lands.contains(to) || off(water, 0, sea.deep - 1));
    sea.place = to;
    sea.water = water;
    sea.hour = 0;
    sea.stranded = false;
    sea.sunk = false;
    return 1;
  }

  private long head(int h) {
    state(sea == null);
    bad(off(h, 0, 7));
    int was = sea.head;
    sea.head = h;
    return was;
  }

  private long sailed(int n, int manned, int seed) {
    state(sea == null || sea.place == null);
    bad(off(n, 1, 100) || off(manned, 0, 1) || off(seed, 1, 999999));
    BigInteger x = BigInteger.valueOf(seed);
    for (int k = 0; k < n; k++) {
      x = x.multiply(BigInteger.valueOf(16807)).mod(BigInteger.valueOf(2147483647));
      int rest = x.mod(BigInteger.valueOf(sea.allOdds())).intValue();
      int wind = 0;
      int together = sea.winds.get(0).odds;
      while (together <= rest) {
        wind++;
        together += sea.winds.get(wind).odds;
      }
      sea.hourOf(sea.winds.get(wind), manned == 1);
    }
    return sea.hour;
  }

  private long blown(int row, int i, int n) {
    state(sea == null || sea.place == null);
    bad(off(row, 0, 7) || off(n, 1, 40));
    finding(rows[row] == null, NULL);
    finding(i < 0 || (long) i + n > rows[row].length, PLACE);
    for (int k = i; k < i + n; k++) {
      bad(off(rows[row][k], 0, sea.winds.size() - 1));
    }
    for (int k = i; k < i + n; k++) {
      sea.hourOf(sea.winds.get(rows[row][k]), false);
    }
    return fine(sea.hour);
  }

  private long ship(int what) {
    state(sea == null || sea.place == null);
    bad(off(what, 0, 6));
    return new long[] {sea.place.x, sea.place.y, sea.water, sea.hour, sea.stranded ? 1 : 0, sea.sunk ? 1 : 0,
        sea.head}[what];
  }

  // ---- by herself

  private Cell cell(int number, boolean landToo) {
    bad(number < 0 || sea == null);
    Cell c = new Cell(number % 16, number / 16);
    bad(!sea.has(c) || !landToo && sea.lands.contains(c));
    return c;
  }

  /** All rows of n WINDS: weights and ways, added by cell. */
  private void rowsOfWinds(Cell at, int h, int n, long weight, long[] weights, long[] ways) {
    if (n == 0) {
      weights[at.number()] += weight;
      ways[at.number()]++;
      return;
    }
    for (Wind wind : sea.winds) {
      Cell to = sea.lands.contains(at) ? at : sea.gone(at, wind, h);
      rowsOfWinds(to, h, n - 1, weight * wind.odds, weights, ways);
    }
  }

  private BigInteger[] lowest(BigInteger above, BigInteger below) {
    if (above.signum() == 0) {
      return new BigInteger[] {BigInteger.ZERO, BigInteger.ONE};
    }
    BigInteger common = above.gcd(below);
    return new BigInteger[] {above.divide(common), below.divide(common)};
  }

  private long herself(int from, int to, int h, int n, int what) {
    Cell a = cell(from, false);
    Cell b = cell(to, true);
    bad(off(h, 0, 7) || off(n, 0, 8) || off(what, 0, 2));
    long[] weights = new long[128];
    long[] ways = new long[128];
    rowsOfWinds(a, h, n, 1, weights, ways);
    if (what == 2) {
      return ways[b.number()];
    }
    BigInteger all = BigInteger.valueOf(sea.allOdds()).pow(n);
    return lowest(BigInteger.valueOf(weights[b.number()]), all)[what].longValueExact();
  }

  /** ODDS of each n of a set over one divisor; 0 for what is not of it. */
  private BigInteger[] arrivals(int set, int from, int to) {
    Cell a = cell(from, false);
    Cell b = cell(to, true);
    BigInteger[] each = new BigInteger[9];
    for (int n = 0; n <= 8; n++) {
      each[n] = BigInteger.ZERO;
      if ((set >> n & 1) == 1) {
        long[] weights = new long[128];
        rowsOfWinds(a, sea.head, n, 1, weights, new long[128]);
        each[n] = BigInteger.valueOf(weights[b.number()]).multiply(BigInteger.valueOf(sea.allOdds()).pow(8 - n));
      }
    }
    return each;
  }

  private long could(int from, int to) {
    BigInteger[] each = arrivals(511, from, to);
    int set = 0;
    for (int n = 0; n <= 8; n++) {
      set += each[n].signum() > 0 ? 1 << n : 0;
    }
    return set;
  }

  private long leftAt(int set, int from, int to) {
    bad(off(set, 1, 511));
    BigInteger[] each = arrivals(set, from, to);
    long likeliest = NONE;
    for (int n = 8; n >= 0; n--) {
      if (each[n].signum() > 0 && (likeliest == NONE || each[n].compareTo(each[(int) likeliest]) >= 0)) {
        likeliest = n;
      }
    }
    return likeliest;
  }

  private long leftOdds(int set, int from, int to, int n, int what) {
    bad(off(set, 1, 511) || off(n, 0, 8) || (set >> n & 1) == 0 || off(what, 0, 1));
    BigInteger[] each = arrivals(set, from, to);
    BigInteger all = Arrays.stream(each).reduce(BigInteger.ZERO, BigInteger::add);
    return all.signum() == 0 ? NONE : lowest(each[n], all)[what].longValueExact();
  }

  private long boat(int from, int h, int n) {
    Cell a = cell(from, false);
    bad(off(h, 0, 7) || off(n, 0, 8));
    long[] weights = new long[128];
    rowsOfWinds(a, h, n, 1, weights, new long[128]);
    long most = Arrays.stream(weights).max().getAsLong();
    int at = 0;
    while (weights[at] != most) {
      at++;
    }
    return at;
  }

  // ---- clocks, water, a bang, who leaves

  private long thought(int x, int m, int c) {
    bad(off(x, -999, 999) || off(m, -99, 99) || off(c, 1, 60));
    int whole = Math.abs(m) / c;
    return m < 0 ? x - whole : x + whole;
  }

  private long seemed(int v, int slip, int what) {
    state(sea == null);
    bad(off(v, 0, 200) || off(slip, 0, 50) || off(what, 0, 1));
    int told = what == 0 ? v - slip : v + slip;
    return told < 0 ? 0 : told > sea.deep ? sea.deep : told;
  }

  private long deep(int v) {
    state(sea == null);
    bad(off(v, 0, 200));
    if (v < sea.deep && sea.leak == 0) {
      return NONE;
    }
    int hours = 0;
    for (int in = v; in < sea.deep; in += sea.leak) {
      hours++;
    }
    return hours;
  }

  private long was(int v, int slip, int t, int what) {
    state(sea == null);
    bad(off(t, 0, 99));
    long in = seemed(v, slip, what);
    for (int k = 0; k < t; k++) {
      in = in < sea.leak ? 0 : in - sea.leak;
    }
    return in;
  }

  private long bang(int b, int g, int v, int m, int what) {
    bad(off(b, 0, 99) || off(g, 0, 50) || off(v, 1, 999) || off(m, 0, 999) || off(what, 0, 2));
    int parts = b * g * 10 / v;
    if (what == 0) {
      return parts;
    }
    return !off(parts, 30, 190) && (what == 1 || b * g <= m) ? 1 : 0;
  }

  private long leave(int w, int f, int what) {
    state(sea == null);
    bad(off(w, 0, 200) || off(f, 0, 50) || off(what, 0, 1));
    List<Integer> left = new ArrayList<>();
    int rounds = 0;
    while (true) {
      List<Integer> now = new ArrayList<>();
      for (int man = 0; man < sea.men.size(); man++) {
        Man m = sea.men.get(man);
        if (!left.contains(man) && (m.water <= w || m.fear <= f + left.size())) {
          now.add(man);
        }
      }
      if (now.isEmpty()) {
        break;
      }
      left.addAll(now);
      rounds++;
    }
    return what == 1 ? rounds : left.stream().mapToInt(man -> 1 << man).sum();
  }

  private long leastWater(int f) {
    state(sea == null);
    bad(off(f, 0, 50));
    for (int w = 1; w <= 200 && !sea.men.isEmpty(); w++) {
      if (leave(w, f, 0) == (1 << sea.men.size()) - 1) {
        return w;
      }
    }
    return NONE;
  }

  // ---- signs, stories

  private Sign signOf(int sign) {
    bad(sea == null || off(sign, 0, sea.signs.size() - 1));
    return sea.signs.get(sign);
  }

  private long sign(int sign, int what) {
    Sign asked = signOf(sign);
    bad(off(what, 0, 2));
    int set = 0;
    for (int k = 0; k < sea.stories.size(); k++) {
      Story story = sea.stories.get(k);
      set += (what == 1 ? story.leaves(sign) : story.bars(sign)) ? 1 << k : 0;
    }
    return what == 0 ? asked.gain : set;
  }

  private long oath(int g) {
    state(sea == null);
    bad(off(g, 0, 9));
    int set = 0;
    for (int k = 0; k < sea.signs.size(); k++) {
      set += sea.signs.get(k).kind != 7 && sea.signs.get(k).gain <= g ? 1 << k : 0;
    }
    return set;
  }

  private long madeUp(int g) {
    state(sea == null);
    bad(off(g, 0, 9));
    int set = 0;
    for (int k = 0; k < sea.signs.size(); k++) {
      int kind = sea.signs.get(k).kind;
      set += kind == 7 || kind == 6 && sea.signs.get(k).gain > g ? 1 << k : 0;
    }
    return set;
  }

  private void setOfSigns(int set) {
    bad(set < 0 || set >= 1 << sea.signs.size());
  }

  private long weight(Story story, int seen) {
    long weight = story.odds;
    for (int k = 0; k < sea.signs.size(); k++) {
      if ((seen >> k & 1) == 1) {
        weight *= story.leaves(k) ? 4 : story.bars(k) ? 0 : 2;
      } else {
        weight *= story.leaves(k) ? 1 : 2;
      }
    }
    return weight;
  }

  private long odds(int story, int seen, int what) {
    bad(sea == null || off(story, 0, sea.stories.size() - 1) || off(what, 0, 1));
    setOfSigns(seen);
    long all = sea.stories.stream().mapToLong(each -> weight(each, seen)).sum();
    return lowest(BigInteger.valueOf(weight(sea.stories.get(story), seen)), BigInteger.valueOf(all))[what].longValue();
  }

  private long likeliest(int seen) {
    state(sea == null || sea.stories.isEmpty());
    setOfSigns(seen);
    long most = sea.stories.stream().mapToLong(each -> weight(each, seen)).max().getAsLong();
    for (int k = 0; k < sea.stories.size() && most > 0; k++) {
      if (weight(sea.stories.get(k), seen) == most) {
        return k;
      }
    }
    return NONE;
  }

  private long lacks(int story, int seen, int what) {
    bad(sea == null || off(story, 0, sea.stories.size() - 1) || off(what, 0, 1));
    setOfSigns(seen);
    int set = 0;
    for (int k = 0; k < sea.signs.size(); k++) {
      boolean isSeen = (seen >> k & 1) == 1;
      Story told = sea.stories.get(story);
      set += (what == 0 ? told.leaves(k) && !isSeen : told.bars(k) && isSeen) ? 1 << k : 0;
    }
    return set;
  }

  private long next(int set) {
    state(sea == null);
    setOfSigns(set);
    long best = NONE;
    int most = -1;
    for (int k = 0; k < sea.signs.size(); k++) {
      int pairs = 0;
      for (Story a : sea.stories) {
        for (Story b : sea.stories) {
          pairs += a.leaves(k) && b.bars(k) ? 1 : 0;
        }
      }
      if ((set >> k & 1) == 0 && pairs > most) {
        most = pairs;
        best = k;
      }
    }
    return best;
  }

  private long image(int k) {
    bad(off(k, 0, 1));
    state(sea == null);
    images[k] = sea.copied();
    return 1;
  }

  private long restore(int k) {
    bad(off(k, 0, 1));
    state(images[k] == null);
    sea = images[k].copied();
    return 1;
  }

  // ---- asked

  private long as(int sign, int kind) {
    int told = signOf(sign).kind;
    bad(off(kind, 0, 7));
    boolean is = kind == 0 || kind == told || told == 5 && kind == 4 || told == 7 && kind == 6;
    finding(!is, KIND);
    return fine(sign);
  }

  private long ask(int sign, int what) {
    signOf(sign);
    bad(off(what, 0, 1));
    traced.clear();
    return what == 0 ? size(sign) : mark(sign);
  }

  private long size(int sign) {
    return body(sign, new int[] {10, 10, 11, 10, 10, 12, 13, 14}[signOf(sign).kind]);
  }

  private long mark(int sign) {
    return body(sign, new int[] {20, 20, 20, 24, 21, 22, 20, 23}[signOf(sign).kind]);
  }

  private long body(int sign, int number) {
    if (traced.size() < 16) {
      traced.add(number);
    }
    return switch (number) {
      case 10 -> signOf(sign).gain;
      case 11 -> body(sign, 10) + mark(sign);
      case 12 -> 10 * body(sign, 10);
      case 13 -> body(sign, 10) + 1;
      case 14 -> -body(sign, 13);
      case 20 -> sign;
      case 21 -> body(sign, 20) + size(sign);
      case 22 -> body(sign, 21) + 100;
      case 23 -> body(sign, 20) + sea.stories.stream().filter(story -> story.leaves(sign)).count();
      default -> body(sign, 20) - size(sign);
    };
  }

  private long count(int what) {
    bad(off(what, 0, 8));
    if (what == 0) {
      return Arrays.stream(rows).filter(row -> row != null).count();
    }
    if (what == 7) {
      return tape.size();
    }
    if (sea == null) {
      return 0;
    }
    return new long[] {0, (long) sea.wide * sea.high, sea.winds.size(), sea.lands.size(), sea.men.size(),
        sea.signs.size(), sea.stories.size(), 0, sea.allOdds()}[what];
  }

  /** The cells of the sea that stands, for tests that ask about some of them: wide, high, deep, signs, stories. */
  int[] measures() {
    return sea == null ? new int[] {1, 1, 1, 0, 0}
        : new int[] {sea.wide, sea.high, sea.deep, sea.signs.size(), sea.stories.size()};
  }

  /** A text, cut into tokens; whole() is null where it has a FAULT. */
  private static final class Text {
    private static final Pattern TOKEN = Pattern.compile("[a-z]+|[0-9]+|[^ \\n]", Pattern.DOTALL);

    private final List<String> tokens = new ArrayList<>();
    private final List<Integer> places = new ArrayList<>();
    private int at;
    int fault;
    int place;

    Text(String text) {
      Matcher found = TOKEN.matcher(text);
      while (found.find()) {
        tokens.add(found.group());
        places.add(found.start());
      }
      tokens.add("");
      places.add(text.length());
    }

    Sea whole() {
      try {
        return read(new Sea());
      } catch (Refused refused) {
        fault = (int) refused.answer;
        place = places.get(at);
        return null;
      }
    }

    private Sea read(Sea sea) {
      word("sea");
      sea.wide = number(1, 16);
      sea.high = number(1, 8);
      word(";");
      do {
        more("wind", sea.winds.size(), 4);
        sea.winds.add(new Wind(oneOf(WAYS), number(1, 9)));
        word(";");
      } while (is("wind"));
      for (int told = 0; is("land"); told++) {
        more("land", told, 12);
        Cell cell = new Cell(number(0, sea.wide - 1), number(0, sea.high - 1));
        if (!sea.lands.contains(cell)) {
          sea.lands.add(cell);
        }
        word(";");
      }
      word("ship");
      sea.head = number(0, 7);
      sea.leak = number(0, 20);
      sea.pump = number(0, 40);
      sea.deep = number(1, 200);
      word(";");
      while (is("man")) {
        more("man", sea.men.size(), 10);
        sea.men.add(new Man(number(1, 200), number(1, 50)));
        word(";");
      }
      while (is("sign")) {
        more("sign", sea.signs.size(), 10);
        sea.signs.add(new Sign(oneOf(WHATS), number(0, 9)));
        word(";");
      }
      while (is("story")) {
        more("story", sea.stories.size(), 6);
        story(sea);
      }
      word("");
      return sea;
    }

    private void story(Sea sea) {
      Story story = new Story(number(1, 9), new String[10]);
      while (is("leaves") || is("bars")) {
        String says = tokens.get(at++);
        story.says[number(0, sea.signs.size() - 1)] = says;
      }
      word(";");
      sea.stories.add(story);
    }

    private boolean is(String word) {
      return tokens.get(at).equals(word);
    }

    private void word(String word) {
      if (!is(word)) {
        throw new Refused(1);
      }
      at++;
    }

    private void more(String word, int soFar, int room) {
      if (is(word) && soFar >= room) {
        throw new Refused(3);
      }
      word(word);
    }

    private int number(int least, int most) {
      if (!tokens.get(at).matches("[0-9]{1,3}")) {
        throw new Refused(1);
      }
      int value = Integer.parseInt(tokens.get(at));
      if (off(value, least, most)) {
        throw new Refused(2);
      }
      at++;
      return value;
    }

    private int oneOf(List<String> words) {
      int found = words.indexOf(tokens.get(at));
      if (found < 0 || tokens.get(at).isEmpty()) {
        throw new Refused(1);
      }
      at++;
      return found;
    }
  }
}
