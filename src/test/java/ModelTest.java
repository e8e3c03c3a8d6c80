import java.util.Arrays;
import java.util.Random;
import java.util.regex.Matcher;
import java.util.regex.Pattern;

/** Random runs of calls, each answer held against a slow model that walks every step by itself. */
public final class ModelTest {
  private static final int RUNS = 1500;
  private static final int CALLS = 160;
  private static int wrong = 0;

  public static void main(String[] args) {
    for (int run = 0; run < RUNS && wrong < 20; run++) {
      oneRun(run);
    }
    System.out.println(wrong == 0 ? "all answers are the model's" : wrong + " answers are not the model's");
    if (wrong != 0) {
      System.exit(1);
    }
  }

  private static void same(int run, String call, long got, long want) {
    if (got != want) {
      wrong++;
      System.out.println("run " + run + ": " + call + " answered " + got + ", the model " + want);
    }
  }

  private static void oneRun(int run) {
    Random r = new Random(run);
    BowingBridges x = new BowingBridges();
    Model m = new Model();
    typeBoth(x, m, 0, someBridges(r));
    typeBoth(x, m, 1, someBoats(r));
    for (int i = r.nextInt(9); i > 0; i--) {
      int boat = r.nextInt(r.nextBoolean() ? 3 : 8);
      int mark = r.nextInt(6);
      same(run, "sham", x.sham(boat, mark), m.sham(boat, mark));
    }
    for (int i = 0; i < CALLS; i++) {
      oneCall(run, r, x, m);
    }
    same(run, "digest()", x.digest(), m.digest());
  }

  private static void typeBoth(BowingBridges x, Model m, int text, String s) {
    for (int i = 0; i < s.length(); i++) {
      x.type(text, s.charAt(i));
      m.type(text, s.charAt(i));
    }
  }

  private static String someBridges(Random r) {
    StringBuilder s = new StringBuilder();
    int n = r.nextInt(9);
    for (int i = 0; i < n; i++) {
      s.append(i == 0 ? "" : ";").append("lnm".charAt(r.nextInt(3)));
      s.append((char) ('a' + r.nextInt(6))).append(1 + r.nextInt(r.nextInt(4) == 0 ? 9 : 2));
    }
    return s.toString();
  }

  private static String someBoats(Random r) {
    StringBuilder s = new StringBuilder();
    int n = r.nextInt(9);
    for (int i = 0; i < n; i++) {
      s.append(i == 0 ? "" : ";");
      for (int k = r.nextInt(7); k > 0; k--) {
        s.append((char) ('a' + r.nextInt(6)));
      }
      s.append(r.nextInt(10));
    }
    return s.toString();
  }

  private static int any(Random r, int bound) {
    int k = r.nextInt(20);
    return k == 0 ? -1 : k == 1 ? bound : r.nextInt(bound);
  }

  private static void oneCall(int run, Random r, BowingBridges x, Model m) {
    int text = any(r, 2);
    int bridge = any(r, 8);
    int boat = any(r, 8);
    int step = any(r, r.nextBoolean() ? 100 : 20);
    int what = any(r, 2);
    int s = any(r, 4);
    int form = any(r, 3);
    switch (r.nextInt(36)) {
      case 0: {
        if (r.nextInt(8) == 0) {
          int b = r.nextBoolean() ? any(r, 256) : "lnmabcdef0123456789;".charAt(r.nextInt(20));
          same(run, "type(" + text + ", " + b + ")", x.type(text, b), m.type(text, b));
        }
        break;
      }
      case 1: {
        if (r.nextInt(12) == 0 && text >= 0 && text < 2) {
          same(run, "wipe(" + text + ")", x.wipe(text), m.wipe(text));
          typeBoth(x, m, text, text == 0 ? someBridges(r) : someBoats(r));
        }
        break;
      }
      case 2: {
        if (r.nextInt(4) == 0) {
          same(run, "undo(" + text + ")", x.undo(text), m.undo(text));
        }
        break;
      }
      case 3: same(run, "fault(" + text + ")", x.fault(text), m.fault(text)); break;
      case 4: { int w = any(r, 3); same(run, "bridge", x.bridge(bridge, w), m.bridge(bridge, w)); break; }
      case 5: { int w = any(r, 7); same(run, "boat", x.boat(boat, w), m.boat(boat, w)); break; }
      case 6: { int mark = any(r, 6); same(run, "sham", x.sham(boat, mark), m.sham(boat, mark)); break; }
      case 7: same(run, "back()", x.back(), m.back()); break;
      case 8: same(run, "read(" + s + ")", x.read(s), m.read(s)); break;
      case 9: same(run, "lifts", x.lifts(bridge, boat), m.lifts(bridge, boat)); break;
      case 10: same(run, "at(" + step + ", " + boat + ")", x.at(step, boat), m.at(step, boat)); break;
      case 11: same(run, "passes", x.passes(bridge, boat, what), m.passes(bridge, boat, what)); break;
      case 12: same(run, "waits(" + boat + ")", x.waits(boat), m.waits(boat)); break;
      case 13: same(run, "through(" + step + ")", x.through(step), m.through(step)); break;
      case 14: same(run, "first(" + what + ")", x.first(what), m.first(what)); break;
      case 15: { int i = any(r, 4) - 1; same(run, "cargo", x.cargo(boat, i), m.cargo(boat, i)); break; }
      case 16: same(run, "sail", x.sail(boat, what), m.sail(boat, what)); break;
      case 17: same(run, "away(" + what + ")", x.away(what), m.away(what)); break;
      case 18: {
        // Mostly what may well have been, lest nothing ever comes out so.
        int b = r.nextInt(3) == 0 ? any(r, 9) : x.at(step, boat);
        same(run, "seen", x.seen(step, boat, b), m.seen(step, boat, b));
        break;
      }
      case 19: {
        if (r.nextInt(3) == 0) {
          same(run, "forget()", x.forget(), m.forget());
        }
        break;
      }
      case 20: same(run, "liked", x.liked(bridge, what), m.liked(bridge, what)); break;
      case 21: same(run, "under(" + boat + ")", x.under(boat), m.under(boat)); break;
      case 22: same(run, "ask", x.ask(bridge, step), m.ask(bridge, step)); break;
      case 23: {
        if (r.nextInt(3) == 0) {
          int c = any(r, 17);
          same(run, "believed", x.believed(c, boat, step, what), m.believed(c, boat, step, what));
        }
        break;
      }
      case 24: {
        int seed = r.nextInt();
        int n = any(r, 7);
        same(run, "loads", x.loads(seed, n, boat, what), m.loads(seed, n, boat, what));
        break;
      }
      case 25: case 26: {
        int n = r.nextInt(10) == 0 ? r.nextInt(64) - 2 : r.nextInt(14);
        same(run, "sheet", x.sheet(s, form, n), m.sheet(s, form, n));
        break;
      }
      case 27: { if (r.nextInt(3) == 0) { same(run, "lose(" + s + ")", x.lose(s), m.lose(s)); } break; }
      case 28: case 29: case 30: {
        int i = any(r, 12);
        int v = r.nextInt(3) == 0 ? r.nextInt() : r.nextInt(8);
        same(run, "lay", x.lay(s, form, i, v), m.lay(s, form, i, v));
        break;
      }
      case 31: { int i = any(r, 14); same(run, "get", x.get(s, form, i), m.get(s, form, i)); break; }
      case 32: {
        int t = any(r, 4);
        int i = any(r, 8);
        int j = any(r, 8);
        int n = any(r, 8);
        same(run, "copy", x.copy(s, i, t, j, n), m.copy(s, i, t, j, n));
        break;
      }
      case 33: same(run, "write", x.write(step, s), m.write(step, s)); break;
      default: { int w = any(r, 9); same(run, "count(" + w + ")", x.count(w), m.count(w)); break; }
    }
  }

  /** One cut as it is or might be: it walks the steps and notes all of them. */
  private static final class Walk {
    int bridges;
    int boats;
    boolean[][] lift;
    int[] start;
    int[][] place = new int[100][];
    int[][] passed;
    boolean[][] slipped;
    int[] waited;
    int firstStep = -1;
    int firstBoat = -1;

    void go() {
      int[] now = new int[boats];
      Arrays.fill(now, -1);
      passed = new int[bridges][boats];
      slipped = new boolean[bridges][boats];
      waited = new int[boats];
      for (int[] row : passed) {
        Arrays.fill(row, -1);
      }
      for (int step = 0; step < 100; step++) {
        for (int b = 0; b < boats; b++) {
          if (start[b] == step) {
            now[b] = 0;
          }
        }
        int[] before = now.clone();
        for (int g = bridges - 1; g >= 0; g--) {
          int ahead = -1;
          for (int b = boats - 1; b >= 0; b--) {
            ahead = before[b] == g && lift[g][b] ? b : ahead;
          }
          int behind = -1;
          for (int b = boats - 1; b >= 0; b--) {
            behind = before[b] == g && b != ahead ? b : behind;
          }
          if (ahead >= 0) {
            now[ahead]++;
            passed[g][ahead] = step;
            if (behind >= 0) {
              now[behind]++;
              passed[g][behind] = step;
              slipped[g][behind] = true;
            }
          }
        }
        for (int b = 0; b < boats; b++) {
          if (now[b] == before[b] && now[b] >= 0 && now[b] < bridges) {
            waited[b]++;
            if (firstStep < 0) {
              firstStep = step;
              firstBoat = b;
            }
          }
        }
        place[step] = now.clone();
      }
    }

    boolean isThrough(int step, int b) {
      return place[step][b] == bridges;
    }

    int throughBits(int step) {
      int bits = 0;
      for (int b = 0; b < boats; b++) {
        bits += isThrough(step, b) ? 1 << b : 0;
      }
      return bits;
    }

    int allWait() {
      return Arrays.stream(waited).sum();
    }
  }

  /** What the document says, as plainly as it goes. */
  private static final class Model {
    private static final String BRIDGE = "[lnm][a-f][1-9]";
    private static final String BOAT = "[a-f]{0,6}[0-9]";
    private final StringBuilder[] texts = {new StringBuilder(), new StringBuilder()};
    private final int[][] shams = new int[8][];
    private int shamCount;
    private final int[][] seen = new int[8][];
    private int seenCount;
    private final int[][] sheets = new int[4][];
    private final int[] forms = new int[4];
    private int finding;
    // What might be in place of what is: it is put back behind each trial.
    private int otherBridge = -1, otherMark, otherMany;
    private int otherBoat = -1, otherStart = -1;
    private int[] otherMarks;
    private int gone = -1;
    private int believedOnes = 255;

    int faultOf(int text) {
      String s = texts[text].toString();
      String item = text == 0 ? BRIDGE : BOAT;
      Pattern whole = Pattern.compile("(" + item + "(;" + item + "){0,7})?");
      Pattern begun = Pattern.compile(item + "(;" + item + "){0,7};?");
      if (whole.matcher(s).matches()) {
        return -1;
      }
      for (int p = 0; p < s.length(); p++) {
        Matcher m = begun.matcher(s.substring(0, p + 1));
        if (!m.matches() && !m.hitEnd()) {
          return p;
        }
      }
      return s.length();
    }

    String[] items(int text) {
      return texts[text].length() == 0 || faultOf(text) != -1 ? new String[0] : texts[text].toString().split(";");
    }

    int[] marksOf(String boat) {
      int[] marks = new int[6];
      for (int i = 0; i < boat.length() - 1; i++) {
        marks[boat.charAt(i) - 'a']++;
      }
      return marks;
    }

    boolean lift(int g, int b, String[] bridges, String[] boats) {
      int kind = "lnm".indexOf(bridges[g].charAt(0));
      int mark = g == otherBridge ? otherMark : bridges[g].charAt(1) - 'a';
      int many = g == otherBridge ? otherMany : bridges[g].charAt(2) - '0';
      int[] marks = b == otherBoat && otherMarks != null ? otherMarks.clone() : marksOf(boats[b]);
      for (int i = 0; i < shamCount && g % 2 == 0; i++) {
        if (shams[i][0] == b && (believedOnes >> i & 1) == 1) {
          marks[shams[i][1]]++;
        }
      }
      int worth = 0;
      for (int k = 0; k < 6; k++) {
        worth += (k + 1) * marks[k];
      }
      return kind == 0 ? marks[mark] >= many : kind == 1 ? marks[mark] < many : worth >= 3 * many && marks[mark] >= 1;
    }

    Walk walk() {
      String[] bridges = items(0);
      String[] boats = items(1);
      Walk w = new Walk();
      w.boats = boats.length;
      w.bridges = 0;
      w.lift = new boolean[bridges.length][boats.length];
      for (int g = 0; g < bridges.length; g++) {
        for (int b = 0; b < boats.length && g != gone; b++) {
          w.lift[w.bridges][b] = lift(g, b, bridges, boats);
        }
        w.bridges += g == gone ? 0 : 1;
      }
      w.start = new int[boats.length];
      for (int b = 0; b < boats.length; b++) {
        int its = boats[b].charAt(boats[b].length() - 1) - '0';
        w.start[b] = b == otherBoat && otherStart >= 0 ? otherStart : its;
      }
      w.go();
      return w;
    }

    boolean comesOut(Walk w) {
      for (int i = 0; i < seenCount; i++) {
        if (seen[i][1] >= w.boats || w.place[seen[i][0]][seen[i][1]] != seen[i][2]) {
          return false;
        }
      }
      return true;
    }

    private static boolean in(int v, int bound) {
      return v >= 0 && v < bound;
    }

    private boolean isBridge(int g) {
      return in(g, items(0).length);
    }

    private boolean isBoat(int b) {
      return in(b, items(1).length);
    }

    int type(int text, int b) {
      if (!in(text, 2) || !in(b, 256)) {
        return -2;
      }
      if (texts[text].length() == (text == 0 ? 31 : 63)) {
        return -4;
      }
      return texts[text].append((char) b).length();
    }

    int wipe(int text) {
      if (!in(text, 2)) {
        return -2;
      }
      int had = texts[text].length();
      texts[text].setLength(0);
      return had;
    }

    int undo(int text) {
      if (!in(text, 2)) {
        return -2;
      }
      if (texts[text].length() == 0) {
        return -3;
      }
      texts[text].setLength(texts[text].length() - 1);
      return texts[text].length();
    }

    int fault(int text) {
      return in(text, 2) ? faultOf(text) : -2;
    }

    int bridge(int g, int what) {
      if (!isBridge(g) || !in(what, 3)) {
        return -2;
      }
      char c = items(0)[g].charAt(what);
      return what == 0 ? "lnm".indexOf(c) : what == 1 ? c - 'a' : c - '0';
    }

    int boat(int b, int what) {
      if (!isBoat(b) || !in(what, 7)) {
        return -2;
      }
      String s = items(1)[b];
      return what == 6 ? s.charAt(s.length() - 1) - '0' : marksOf(s)[what];
    }

    int sham(int boat, int mark) {
      if (!in(boat, 8) || !in(mark, 6)) {
        return -2;
      }
      if (shamCount == 8) {
        return -4;
      }
      shams[shamCount++] = new int[] {boat, mark};
      return shamCount;
    }

    int back() {
      return shamCount == 0 ? -3 : --shamCount;
    }

    int read(int s) {
      if (!in(s, 4)) {
        return -2;
      }
      if (sheets[s] == null) {
        return find(1);
      }
      int came = 0;
      while (came < sheets[s].length / 2 && sham(sheets[s][2 * came], sheets[s][2 * came + 1]) >= 0) {
        came++;
      }
      return came;
    }

    int lifts(int g, int b) {
      return !isBridge(g) || !isBoat(b) ? -2 : lift(g, b, items(0), items(1)) ? 1 : 0;
    }

    int at(int step, int b) {
      return !in(step, 100) || !isBoat(b) ? -2 : walk().place[step][b];
    }

    int passes(int g, int b, int what) {
      if (!isBridge(g) || !isBoat(b) || !in(what, 2)) {
        return -2;
      }
      return what == 0 ? walk().passed[g][b] : walk().slipped[g][b] ? 1 : 0;
    }

    int waits(int b) {
      return isBoat(b) ? walk().waited[b] : -2;
    }

    int through(int step) {
      return in(step, 100) ? walk().throughBits(step) : -2;
    }

    int first(int what) {
      return !in(what, 2) ? -2 : what == 0 ? walk().firstStep : walk().firstBoat;
    }

    private boolean helps(int b, int... more) {
      otherBoat = b;
      otherMarks = marksOf(items(1)[b]);
      for (int mark : more) {
        otherMarks[mark]++;
      }
      Walk w = walk();
      otherBoat = -1;
      otherMarks = null;
      return w.isThrough(99, b);
    }

    private int[] cargoRow(int b) {
      if (helps(b)) {
        return new int[0];
      }
      for (int p = 0; p < 6; p++) {
        if (helps(b, p)) {
          return new int[] {p};
        }
      }
      for (int p = 0; p < 6; p++) {
        for (int q = p; q < 6; q++) {
          if (helps(b, p, q)) {
            return new int[] {p, q};
          }
        }
      }
      return null;
    }

    int cargo(int b, int i) {
      if (!isBoat(b) || i < -1 || i > 1) {
        return -2;
      }
      int[] row = cargoRow(b);
      return row == null ? -1 : i == -1 ? row.length : i < row.length ? row[i] : -1;
    }

    int sail(int b, int what) {
      if (!isBoat(b) || !in(what, 2)) {
        return -2;
      }
      int best = -1;
      int least = Integer.MAX_VALUE;
      otherBoat = b;
      for (otherStart = 0; otherStart < 10; otherStart++) {
        int wait = walk().allWait();
        if (wait < least) {
          least = wait;
          best = otherStart;
        }
      }
      otherBoat = -1;
      otherStart = -1;
      return what == 0 ? best : least;
    }

    int away(int what) {
      if (!in(what, 2)) {
        return -2;
      }
      int best = -1;
      int most = -1;
      int least = 0;
      int n = items(0).length;
      for (gone = 0; gone < n; gone++) {
        Walk w = walk();
        int many = Integer.bitCount(w.throughBits(99));
        if (many > most || many == most && w.allWait() < least) {
          best = gone;
          most = many;
          least = w.allWait();
        }
      }
      gone = -1;
      return what == 0 ? best : most;
    }

    int seen(int step, int boat, int bridge) {
      if (!in(step, 100) || !in(boat, 8) || !in(bridge, 9)) {
        return -2;
      }
      if (seenCount == 8) {
        return -4;
      }
      seen[seenCount++] = new int[] {step, boat, bridge};
      return seenCount;
    }

    int forget() {
      int had = seenCount;
      seenCount = 0;
      return had;
    }

    private Walk walkWith(int g, int mark, int many) {
      otherBridge = g;
      otherMark = mark;
      otherMany = many;
      Walk w = walk();
      otherBridge = -1;
      return w;
    }

    int liked(int g, int what) {
      if (!isBridge(g) || !in(what, 2)) {
        return -2;
      }
      int bits = 0;
      for (int k = 0; k < 10; k++) {
        if (what == 0 ? k < 6 && comesOut(walkWith(g, k, bridge(g, 2)))
            : k > 0 && comesOut(walkWith(g, bridge(g, 1), k))) {
          bits |= 1 << k;
        }
      }
      return bits;
    }

    int under(int b) {
      if (!isBoat(b)) {
        return -2;
      }
      int bits = 0;
      for (int k = 0; k <= 6; k++) {
        otherBoat = b;
        otherMarks = marksOf(items(1)[b]);
        if (k < 6) {
          otherMarks[k]++;
        }
        bits |= comesOut(walk()) ? 1 << k : 0;
        otherBoat = -1;
        otherMarks = null;
      }
      return bits;
    }

    int ask(int g, int step) {
      if (!isBridge(g) || !in(step, 100)) {
        return -2;
      }
      int best = -1;
      int least = 7;
      for (int b = 0; b < items(1).length; b++) {
        int[] many = new int[10];
        for (int k = 0; k < 6; k++) {
          Walk w = walkWith(g, k, bridge(g, 2));
          if (comesOut(w)) {
            many[w.place[step][b] + 1]++;
          }
        }
        int greatest = Arrays.stream(many).max().getAsInt();
        if (greatest < least) {
          least = greatest;
          best = b;
        }
      }
      return best;
    }

    long believed(int c, int b, int step, int what) {
      if (!in(c, 17) || !isBoat(b) || !in(step, 100) || !in(what, 2)) {
        return Long.MIN_VALUE + 2;
      }
      long above = 0;
      long below = 1;
      for (int i = 0; i < shamCount; i++) {
        below *= 16;
      }
      for (int set = 0; set < 1 << shamCount; set++) {
        long weight = 1;
        for (int i = 0; i < shamCount; i++) {
          weight *= (set >> i & 1) == 1 ? c : 16 - c;
        }
        believedOnes = set;
        above += weight > 0 && walk().isThrough(step, b) ? weight : 0;
      }
      believedOnes = 255;
      long p = above;
      long q = below;
      while (q != 0) {
        long rest = p % q;
        p = q;
        q = rest;
      }
      return what == 0 ? above / p : below / p;
    }

    int loads(int seed, int n, int b, int what) {
      if (!in(n, 7) || !isBoat(b) || !in(what, 2)) {
        return -2;
      }
      otherBoat = b;
      otherMarks = new int[6];
      int now = seed;
      for (int i = 0; i < n; i++) {
        now = now * 1103515245 + 12345;
        otherMarks[(int) (((now & 0xffffffffL) / 65536) % 6)]++;
      }
      Walk w = walk();
      otherBoat = -1;
      otherMarks = null;
      return what == 0 ? w.place[99][b] : w.waited[b];
    }

    private int find(int number) {
      finding = number;
      return -10 - number;
    }

    int sheet(int s, int form, int n) {
      if (!in(s, 4) || !in(form, 3) || n > 60) {
        return -2;
      }
      if (n < 0) {
        return find(5);
      }
      sheets[s] = new int[n];
      forms[s] = form;
      return n;
    }

    int lose(int s) {
      if (!in(s, 4)) {
        return -2;
      }
      if (sheets[s] == null) {
        return find(1);
      }
      int had = sheets[s].length;
      sheets[s] = null;
      return had;
    }

    private int asForm(int form, int v) {
      return form == 0 ? (byte) v : form == 1 ? (short) v : v;
    }

    private int itemWrong(int s, int form, int i) {
      return sheets[s] == null ? 1 : forms[s] != form ? 3 : !in(i, sheets[s].length) ? 2 : 0;
    }

    int lay(int s, int form, int i, int v) {
      if (!in(s, 4) || !in(form, 3)) {
        return -2;
      }
      if (itemWrong(s, form, i) != 0) {
        return find(itemWrong(s, form, i));
      }
      sheets[s][i] = asForm(form, v);
      return 1;
    }

    int get(int s, int form, int i) {
      if (!in(s, 4) || !in(form, 3)) {
        return Integer.MIN_VALUE;
      }
      if (itemWrong(s, form, i) != 0) {
        find(itemWrong(s, form, i));
        return Integer.MIN_VALUE;
      }
      return sheets[s][i];
    }

    int copy(int s, int i, int t, int j, int n) {
      if (!in(s, 4) || !in(t, 4)) {
        return -2;
      }
      if (sheets[s] == null || sheets[t] == null) {
        return find(1);
      }
      if (forms[s] != forms[t]) {
        return find(4);
      }
      if (i < 0 || j < 0 || n < 0 || (long) i + n > sheets[s].length || (long) j + n > sheets[t].length) {
        return find(2);
      }
      int[] taken = Arrays.copyOfRange(sheets[s], i, i + n);
      for (int k = 0; k < n; k++) {
        sheets[t][j + k] = taken[k];
      }
      return 1;
    }

    int write(int step, int s) {
      if (!in(step, 100) || !in(s, 4)) {
        return -2;
      }
      if (sheets[s] == null) {
        return find(1);
      }
      int n = 0;
      for (; n < sheets[s].length && n < items(1).length; n++) {
        sheets[s][n] = asForm(forms[s], at(step, n));
      }
      return n;
    }

    int count(int what) {
      switch (what) {
        case 0: return items(0).length;
        case 1: return items(1).length;
        case 2: return texts[0].length();
        case 3: return texts[1].length();
        case 4: return shamCount;
        case 5: return Integer.bitCount(through(99));
        case 6: return walk().allWait();
        case 7: return seenCount;
        case 8: return finding;
        default: return -2;
      }
    }

    private long hash;

    private void mix(long v) {
      hash = 31 * hash + v;
    }

    long digest() {
      hash = 17;
      for (int what = 0; what < 8; what++) {
        mix(count(what));
      }
      mix(fault(0));
      mix(fault(1));
      int boats = count(1);
      for (int g = 0; g < count(0); g++) {
        mix(bridge(g, 0));
        mix(bridge(g, 1));
        mix(bridge(g, 2));
        mix(liked(g, 0));
        mix(liked(g, 1));
        mix(ask(g, 5));
        for (int b = 0; b < boats; b++) {
          mix(lifts(g, b));
          mix(passes(g, b, 0));
          mix(passes(g, b, 1));
        }
      }
      for (int b = 0; b < boats; b++) {
        mixBoat(b);
      }
      mix(through(9));
      mix(first(0));
      mix(first(1));
      mix(away(0));
      mix(away(1));
      return hash;
    }

    private void mixBoat(int b) {
      for (int what = 0; what < 7; what++) {
        mix(boat(b, what));
      }
      mix(at(5, b));
      mix(at(30, b));
      mix(waits(b));
      mix(cargo(b, -1));
      mix(cargo(b, 0));
      mix(sail(b, 0));
      mix(sail(b, 1));
      mix(under(b));
      mix(believed(5, b, 20, 0));
      mix(believed(5, b, 20, 1));
      mix(loads(7, 4, b, 0));
      mix(loads(7, 4, b, 1));
    }
  }
}
