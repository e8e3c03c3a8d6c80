/** Cases worked by hand, some for each promise: ordinary ones, edges, wrong inputs. */
public final class PromisesTest {
  private static final long BAD_LONG = Long.MIN_VALUE + 2;
  private static final int LEAST = Integer.MIN_VALUE;
  private static int wrong = 0;

  private static void due(int promise, String what, long got, long want) {
    if (got != want) {
      wrong++;
      System.out.println("promise " + promise + ": " + what + " answered " + got + ", due is " + want);
    }
  }

  private static void type(BowingBridges x, int text, String s) {
    for (int i = 0; i < s.length(); i++) {
      x.type(text, s.charAt(i));
    }
  }

  private static BowingBridges cut(String bridges, String boats) {
    BowingBridges x = new BowingBridges();
    type(x, 0, bridges);
    type(x, 1, boats);
    return x;
  }

  public static void main(String[] args) {
    newObject();
    typing();
    faults();
    bridgesAndBoats();
    shams();
    reading();
    lifting();
    steps();
    cargo();
    sail();
    away();
    seen();
    ask();
    believed();
    loads();
    sheets();
    copying();
    writing();
    counting();
    digests();
    System.out.println(wrong == 0 ? "all answers are as due" : wrong + " answers are not as due");
    if (wrong != 0) {
      System.exit(1);
    }
  }

  private static void newObject() {
    BowingBridges x = new BowingBridges();
    for (int what = 0; what <= 8; what++) {
      due(1, "count(" + what + ")", x.count(what), 0);
    }
    due(1, "fault(0)", x.fault(0), -1);
    due(1, "fault(1)", x.fault(1), -1);
    due(1, "through(99)", x.through(99), 0);
    due(1, "forget()", x.forget(), 0);
    due(1, "back()", x.back(), -3);
    for (int s = 0; s < 4; s++) {
      due(1, "lose(" + s + ")", x.lose(s), -11);
    }
  }

  private static void typing() {
    BowingBridges x = new BowingBridges();
    due(2, "type(-1, 0)", x.type(-1, 0), -2);
    due(2, "type(2, 0)", x.type(2, 0), -2);
    due(2, "type(0, -1)", x.type(0, -1), -2);
    due(2, "type(0, 256)", x.type(0, 256), -2);
    due(2, "count(2) behind refusals", x.count(2), 0);
    for (int i = 1; i <= 31; i++) {
      due(2, "type(0, 255)", x.type(0, 255), i);
    }
    due(2, "a 32nd byte", x.type(0, 255), -4);
    due(2, "BAD is ahead of FULL", x.type(0, 256), -2);
    due(2, "count(2)", x.count(2), 31);
    for (int i = 1; i <= 63; i++) {
      due(2, "type(1, 0)", x.type(1, 0), i);
    }
    due(2, "a 64th byte", x.type(1, 0), -4);
    due(2, "count(3)", x.count(3), 63);
    due(3, "wipe(-1)", x.wipe(-1), -2);
    due(3, "wipe(2)", x.wipe(2), -2);
    due(3, "wipe(0)", x.wipe(0), 31);
    due(3, "wipe(0) again", x.wipe(0), 0);
    due(3, "fault of a wiped text", x.fault(0), -1);
    due(3, "the other text stands", x.count(3), 63);
    BowingBridges z = cut("la1", "a0");
    due(3, "wipe(1)", z.wipe(1), 2);
    due(3, "fault(1)", z.fault(1), -1);
    due(3, "no boats", z.count(1), 0);
    due(3, "at(0, 0)", z.at(0, 0), -2);
    due(4, "undo(-1)", x.undo(-1), -2);
    due(4, "undo(2)", x.undo(2), -2);
    due(4, "undo(0)", x.undo(0), -3);
    due(4, "undo(1)", x.undo(1), 62);
    due(4, "count(3)", x.count(3), 62);
    BowingBridges y = cut("la1;", "a0x");
    due(4, "undo(0)", y.undo(0), 3);
    due(4, "bridges behind undo", y.count(0), 1);
    due(4, "undo(1)", y.undo(1), 2);
    due(4, "boats behind undo", y.count(1), 1);
    due(4, "lifts behind undo", y.lifts(0, 0), 1);
  }

  private static void fault(int text, String s, int want) {
    BowingBridges x = new BowingBridges();
    type(x, text, s);
    due(5, "fault of '" + s + "'", x.fault(text), want);
    if (want != -1) {
      due(5, "count of '" + s + "'", x.count(text), 0);
    }
  }

  private static void faults() {
    BowingBridges x = new BowingBridges();
    due(5, "fault(-1)", x.fault(-1), -2);
    due(5, "fault(2)", x.fault(2), -2);
    fault(0, "", -1);
    fault(0, "l", 1);
    fault(0, "la", 2);
    fault(0, "la1", -1);
    fault(0, "lf9", -1);
    fault(0, "lg1", 1);
    fault(0, "lA1", 1);
    fault(0, "la0", 2);
    fault(0, "la:", 2);
    fault(0, "ka1", 0);
    fault(0, "oa1", 0);
    fault(0, ";", 0);
    fault(0, "la1;", 4);
    fault(0, "la1;;", 4);
    fault(0, "la12", 3);
    fault(0, "la1;nb2;mc3", -1);
    fault(0, "la1;nb2;xc3", 8);
    fault(1, "", -1);
    fault(1, "0", -1);
    fault(1, "9", -1);
    fault(1, ":", 0);
    fault(1, "a", 1);
    fault(1, "abcdef", 6);
    fault(1, "abcdef0", -1);
    fault(1, "abcdefa", 6);
    fault(1, "abcdefa0", 6);
    fault(1, "ag0", 1);
    fault(1, "00", 1);
    fault(1, "0a", 1);
    fault(1, "0;", 2);
    fault(1, "0;;", 2);
    fault(1, "0;0;0;0;0;0;0;0", -1);
    fault(1, "0;0;0;0;0;0;0;0;", 16);
    fault(1, "0;0;0;0;0;0;0;0;0", 16);
    fault(1, "0;0;0;0;0;0;0;0;x", 16);
    fault(1, "0;0;0;0;0;0;0;0x", 15);
  }

  private static void bridgesAndBoats() {
    BowingBridges x = cut("la1;nf9;mc3", "aab7;fedcba0;4");
    int[][] parts = {{0, 0, 1}, {1, 5, 9}, {2, 2, 3}};
    for (int b = 0; b < 3; b++) {
      for (int what = 0; what < 3; what++) {
        due(6, "bridge(" + b + ", " + what + ")", x.bridge(b, what), parts[b][what]);
      }
    }
    due(6, "bridge(3, 0)", x.bridge(3, 0), -2);
    due(6, "bridge(-1, 0)", x.bridge(-1, 0), -2);
    due(6, "bridge(0, 3)", x.bridge(0, 3), -2);
    due(6, "bridge(0, -1)", x.bridge(0, -1), -2);
    int[][] loads = {{2, 1, 0, 0, 0, 0, 7}, {1, 1, 1, 1, 1, 1, 0}, {0, 0, 0, 0, 0, 0, 4}};
    for (int b = 0; b < 3; b++) {
      for (int what = 0; what < 7; what++) {
        due(7, "boat(" + b + ", " + what + ")", x.boat(b, what), loads[b][what]);
      }
    }
    due(7, "boat(3, 0)", x.boat(3, 0), -2);
    due(7, "boat(-1, 0)", x.boat(-1, 0), -2);
    due(7, "boat(0, 7)", x.boat(0, 7), -2);
    due(7, "boat(0, -1)", x.boat(0, -1), -2);
    x.sham(0, 0);
    due(7, "boat(0, 0) with a sham", x.boat(0, 0), 2);
    x.wipe(1);
    type(x, 1, "b3");
    due(7, "boat(0, 0) of a new text", x.boat(0, 0), 0);
    due(7, "boat(0, 1) of a new text", x.boat(0, 1), 1);
    type(x, 1, ";");
    due(7, "boat(0, 1) with a fault", x.boat(0, 1), -2);
  }

  private static void shams() {
    BowingBridges x = cut("la1;la1;la1", "0");
    due(8, "lifts(0, 0)", x.lifts(0, 0), 0);
    due(8, "sham(-1, 0)", x.sham(-1, 0), -2);
    due(8, "sham(8, 0)", x.sham(8, 0), -2);
    due(8, "sham(0, -1)", x.sham(0, -1), -2);
    due(8, "sham(0, 6)", x.sham(0, 6), -2);
    due(8, "sham(0, 0)", x.sham(0, 0), 1);
    due(8, "lifts(0, 0)", x.lifts(0, 0), 1);
    due(8, "lifts(1, 0)", x.lifts(1, 0), 0);
    due(8, "lifts(2, 0)", x.lifts(2, 0), 1);
    due(8, "at(99, 0)", x.at(99, 0), 1);
    for (int i = 2; i <= 8; i++) {
      due(8, "sham(7, 5)", x.sham(7, 5), i);
    }
    due(8, "a ninth", x.sham(0, 0), -4);
    due(8, "BAD is ahead of FULL", x.sham(0, 6), -2);
    due(8, "count(4)", x.count(4), 8);
    for (int i = 7; i >= 1; i--) {
      due(9, "back()", x.back(), i);
    }
    due(9, "lifts(0, 0) by the one left", x.lifts(0, 0), 1);
    due(9, "back()", x.back(), 0);
    due(9, "lifts(0, 0) by none", x.lifts(0, 0), 0);
    due(9, "back()", x.back(), -3);
  }

  private static void lay(BowingBridges x, int s, int form, int... items) {
    x.sheet(s, form, items.length);
    for (int i = 0; i < items.length; i++) {
      x.lay(s, form, i, items[i]);
    }
  }

  private static void reading() {
    BowingBridges x = cut("la1", "0;0");
    due(10, "read(-1)", x.read(-1), -2);
    due(10, "read(4)", x.read(4), -2);
    x.sham(0, 0);
    due(10, "read of a lost one", x.read(2), -11);
    due(10, "count(8)", x.count(8), 1);
    due(10, "a refusal changes nothing", x.count(4), 1);
    lay(x, 0, 0, 1, 0, 7, 5, 3);
    due(10, "an item over is not whole", x.read(0), 2);
    due(10, "those before stand", x.count(4), 3);
    due(10, "lifts(0, 0)", x.lifts(0, 0), 1);
    due(10, "lifts(0, 1)", x.lifts(0, 1), 1);
    due(9, "the last of the sheet is undone first", x.back(), 2);
    due(9, "back()", x.back(), 1);
    due(9, "lifts(0, 1)", x.lifts(0, 1), 0);
    due(9, "lifts(0, 0)", x.lifts(0, 0), 1);
    lay(x, 1, 2, 1, 0, 8, 0, 0, 0);
    due(10, "no such boat ends it", x.read(1), 1);
    lay(x, 1, 2, 0, 0, 1, 6, 0, 0);
    due(10, "no such mark ends it", x.read(1), 1);
    lay(x, 1, 1, 0, 0, -1, 0, 0, 0);
    due(10, "below 0 ends it", x.read(1), 1);
    due(10, "count(4)", x.count(4), 4);
    x.sheet(3, 0, 1);
    due(10, "no whole one", x.read(3), 0);
    due(10, "count(4)", x.count(4), 4);
    x.sheet(3, 0, 60);
    due(10, "eight at most, with those before", x.read(3), 4);
    due(10, "count(4)", x.count(4), 8);
    due(10, "none if there is no room", x.read(3), 0);
    due(10, "count(4)", x.count(4), 8);
    x = cut("la1", "0;0");
    x.sheet(3, 0, 60);
    due(10, "eight at most", x.read(3), 8);
    readingAndBelieving();
  }

  /** What believed() worked out before a reading is worked out anew behind it. */
  private static void readingAndBelieving() {
    BowingBridges x = cut("la2", "0");
    x.sham(0, 0);
    due(25, "one is too few", x.believed(8, 0, 0, 0), 0);
    lay(x, 0, 0, 0, 0);
    due(10, "one more", x.read(0), 1);
    due(10, "both, by a quarter: above", x.believed(8, 0, 0, 0), 1);
    due(10, "both, by a quarter: below", x.believed(8, 0, 0, 1), 4);
  }

  private static void lifting() {
    BowingBridges x = cut("la2;nb2;mc2", "aa0;abb0;cc0;c0;f0;aaac0;b0;0");
    int[] likes = {1, 0, 0, 0, 0, 1, 0, 0};
    int[] snubs = {1, 0, 1, 1, 1, 1, 1, 1};
    int[] weighs = {0, 0, 1, 0, 0, 1, 0, 0};
    for (int boat = 0; boat < 8; boat++) {
      due(11, "lifts(0, " + boat + ")", x.lifts(0, boat), likes[boat]);
      due(11, "lifts(1, " + boat + ")", x.lifts(1, boat), snubs[boat]);
      due(11, "lifts(2, " + boat + ")", x.lifts(2, boat), weighs[boat]);
    }
    due(11, "lifts(3, 0)", x.lifts(3, 0), -2);
    due(11, "lifts(-1, 0)", x.lifts(-1, 0), -2);
    due(11, "lifts(0, 8)", x.lifts(0, 8), -2);
    due(11, "lifts(0, -1)", x.lifts(0, -1), -2);
    x.sham(3, 2);
    due(11, "a sham is worth too", x.lifts(2, 3), 1);
    x.sham(4, 2);
    due(11, "a sham of its mark", x.lifts(2, 4), 1);
    x.sham(6, 1);
    due(11, "no sham at an odd bridge", x.lifts(1, 6), 1);
    BowingBridges y = cut("na1", "0");
    y.sham(0, 0);
    due(11, "a snubbed sham", y.lifts(0, 0), 0);
  }

  private static void steps() {
    BowingBridges x = cut("la1;nb1", "a0;b0;0");
    due(12, "at(0, 0)", x.at(0, 0), 1);
    due(12, "at(0, 1), slipped", x.at(0, 1), 1);
    due(12, "at(0, 2)", x.at(0, 2), 0);
    due(12, "at(1, 0)", x.at(1, 0), 2);
    due(12, "at(1, 1)", x.at(1, 1), 2);
    due(12, "at(99, 2)", x.at(99, 2), 0);
    due(12, "at(100, 0)", x.at(100, 0), -2);
    due(12, "at(-1, 0)", x.at(-1, 0), -2);
    due(12, "at(0, 3)", x.at(0, 3), -2);
    due(12, "at(0, -1)", x.at(0, -1), -2);
    due(13, "passes(0, 1, 0)", x.passes(0, 1, 0), 0);
    due(13, "passes(0, 0, 1)", x.passes(0, 0, 1), 0);
    due(13, "passes(0, 1, 1)", x.passes(0, 1, 1), 1);
    due(13, "passes(1, 1, 0)", x.passes(1, 1, 0), 1);
    due(13, "passes(1, 1, 1)", x.passes(1, 1, 1), 1);
    due(13, "passes(0, 2, 0)", x.passes(0, 2, 0), -1);
    due(13, "passes(0, 2, 1)", x.passes(0, 2, 1), 0);
    due(13, "passes(2, 0, 0)", x.passes(2, 0, 0), -2);
    due(13, "passes(-1, 0, 0)", x.passes(-1, 0, 0), -2);
    due(13, "passes(0, 3, 0)", x.passes(0, 3, 0), -2);
    due(13, "passes(0, -1, 0)", x.passes(0, -1, 0), -2);
    due(13, "passes(0, 0, 2)", x.passes(0, 0, 2), -2);
    due(13, "passes(0, 0, -1)", x.passes(0, 0, -1), -2);
    due(14, "waits(0)", x.waits(0), 0);
    due(14, "waits(2)", x.waits(2), 100);
    due(14, "waits(3)", x.waits(3), -2);
    due(14, "waits(-1)", x.waits(-1), -2);
    due(15, "through(0)", x.through(0), 0);
    due(15, "through(1)", x.through(1), 3);
    due(15, "through(99)", x.through(99), 3);
    due(15, "through(100)", x.through(100), -2);
    due(15, "through(-1)", x.through(-1), -2);
    due(16, "first(0)", x.first(0), 0);
    due(16, "first(1)", x.first(1), 2);
    due(16, "first(2)", x.first(2), -2);
    due(16, "first(-1)", x.first(-1), -2);
    lesserOneSlips();
    laterStarts();
    noBridges();
  }

  private static void lesserOneSlips() {
    BowingBridges x = cut("lb1", "0;0;b4");
    due(13, "it lifts for the last", x.passes(0, 2, 0), 4);
    due(13, "passes(0, 2, 1)", x.passes(0, 2, 1), 0);
    due(13, "the least other one slips", x.passes(0, 0, 0), 4);
    due(13, "passes(0, 0, 1)", x.passes(0, 0, 1), 1);
    due(13, "one alone slips", x.passes(0, 1, 0), -1);
    due(14, "waits(0)", x.waits(0), 4);
    due(14, "waits(1)", x.waits(1), 100);
    due(16, "first(1), the least", x.first(1), 0);
  }

  private static void laterStarts() {
    BowingBridges x = cut("la1;lb1", "ab3;a5;ab9");
    due(12, "at(2, 0)", x.at(2, 0), -1);
    due(12, "at(3, 0)", x.at(3, 0), 1);
    due(12, "at(4, 0)", x.at(4, 0), 2);
    due(12, "at(5, 1)", x.at(5, 1), 1);
    due(12, "at(9, 1)", x.at(9, 1), 1);
    due(12, "at(10, 1)", x.at(10, 1), 2);
    due(14, "waits(1)", x.waits(1), 4);
    due(16, "first(0)", x.first(0), 6);
    due(16, "first(1)", x.first(1), 1);
    due(15, "through(9)", x.through(9), 1);
    due(15, "through(10)", x.through(10), 7);
    due(33, "count(6)", x.count(6), 4);
  }

  private static void noBridges() {
    BowingBridges x = cut("", "a3;0");
    due(12, "at(2, 0)", x.at(2, 0), -1);
    due(12, "at(3, 0)", x.at(3, 0), 0);
    due(14, "waits(0)", x.waits(0), 0);
    due(15, "through(2)", x.through(2), 2);
    due(15, "through(3)", x.through(3), 3);
    due(16, "first(0)", x.first(0), -1);
    due(16, "first(1)", x.first(1), -1);
    due(19, "away(0)", x.away(0), -1);
    due(19, "away(1)", x.away(1), -1);
  }

  private static void cargoIs(String bridges, String boats, int boat, int many, int one, int two) {
    BowingBridges x = cut(bridges, boats);
    String which = "cargo of " + bridges + " " + boats + ": ";
    due(17, which + "how many", x.cargo(boat, -1), many);
    due(17, which + "0", x.cargo(boat, 0), one);
    due(17, which + "1", x.cargo(boat, 1), two);
  }

  private static void cargo() {
    cargoIs("la1", "a0", 0, 0, -1, -1);
    cargoIs("lc1", "0", 0, 1, 2, -1);
    cargoIs("la2", "0", 0, 2, 0, 0);
    cargoIs("le1;lc1", "0", 0, 2, 2, 4);
    cargoIs("la3", "0", 0, -1, -1, -1);
    cargoIs("na1", "a0", 0, -1, -1, -1);
    cargoIs("mb1", "b0", 0, 1, 0, -1);
    cargoIs("mb3", "b0", 0, 2, 0, 5);
    cargoIs("la7", "aaaaaa0", 0, 1, 0, -1);
    cargoIs("la1", "a0;0;0", 2, 1, 0, -1);
    cargoIs("", "0", 0, 0, -1, -1);
    BowingBridges x = cut("la1;la1", "0");
    x.sham(0, 0);
    due(17, "a mark more is no sham", x.cargo(0, -1), 1);
    x.undo(0);
    x.undo(0);
    x.undo(0);
    x.undo(0);
    due(17, "shams that are there stand", x.cargo(0, -1), 0);
    due(17, "cargo(1, 0)", x.cargo(1, 0), -2);
    due(17, "cargo(-1, 0)", x.cargo(-1, 0), -2);
    due(17, "cargo(0, 2)", x.cargo(0, 2), -2);
    due(17, "cargo(0, -2)", x.cargo(0, -2), -2);
  }

  private static void sail() {
    BowingBridges x = cut("la1", "a0;3");
    due(18, "sail(0, 0)", x.sail(0, 0), 3);
    due(18, "sail(0, 1)", x.sail(0, 1), 0);
    due(18, "sail(1, 0)", x.sail(1, 0), 0);
    due(18, "sail(1, 1)", x.sail(1, 1), 0);
    due(18, "the start stands", x.boat(0, 6), 0);
    due(18, "sail(2, 0)", x.sail(2, 0), -2);
    due(18, "sail(-1, 0)", x.sail(-1, 0), -2);
    due(18, "sail(0, 2)", x.sail(0, 2), -2);
    due(18, "sail(0, -1)", x.sail(0, -1), -2);
    BowingBridges y = cut("la1", "0");
    due(18, "the last start", y.sail(0, 0), 9);
    due(18, "it waits less", y.sail(0, 1), 91);
    BowingBridges z = cut("nf1", "5");
    due(18, "of like ones the least", z.sail(0, 0), 0);
    due(18, "how much", z.sail(0, 1), 0);
  }

  private static void awayIs(String bridges, String boats, int which, int many) {
    BowingBridges x = cut(bridges, boats);
    due(19, "away(0) of " + bridges + " " + boats, x.away(0), which);
    due(19, "away(1) of " + bridges + " " + boats, x.away(1), many);
  }

  private static void away() {
    awayIs("la1;lb1", "a0", 1, 1);
    awayIs("lb1;la1", "a0", 0, 1);
    awayIs("nf1;la1;lb1", "0", 1, 0);
    awayIs("la1;la1", "a0", 0, 1);
    awayIs("la1;lb1", "", 0, 0);
    awayIs("", "", -1, -1);
    BowingBridges x = cut("nb1;la1", "0");
    x.sham(0, 0);
    due(19, "the others lift as they do", x.away(0), 1);
    due(19, "how many", x.away(1), 1);
    due(19, "no bridge has gone", x.count(0), 2);
    due(19, "away(2)", x.away(2), -2);
    due(19, "away(-1)", x.away(-1), -2);
  }

  private static void seen() {
    BowingBridges x = cut("la1", "a0;b2;5");
    due(22, "liked(0, 0), none seen", x.liked(0, 0), 63);
    due(22, "liked(0, 1), none seen", x.liked(0, 1), 1022);
    due(23, "under(0), none seen", x.under(0), 127);
    due(20, "seen(4, 1, 1)", x.seen(4, 1, 1), 1);
    due(22, "liked(0, 0)", x.liked(0, 0), 2);
    due(22, "liked(0, 1)", x.liked(0, 1), 0);
    due(23, "under(1)", x.under(1), 1);
    due(23, "under(0)", x.under(0), 0);
    due(21, "forget()", x.forget(), 1);
    due(21, "forget()", x.forget(), 0);
    x.seen(4, 1, 0);
    due(22, "liked(0, 0)", x.liked(0, 0), 61);
    due(22, "liked(0, 1)", x.liked(0, 1), 1022);
    due(23, "under(1)", x.under(1), 126);
    x.seen(0, 0, 1);
    due(22, "liked(0, 0) by both", x.liked(0, 0), 1);
    due(22, "liked(0, 1) by both", x.liked(0, 1), 2);
    due(22, "liked(1, 0)", x.liked(1, 0), -2);
    due(22, "liked(-1, 0)", x.liked(-1, 0), -2);
    due(22, "liked(0, 2)", x.liked(0, 2), -2);
    due(22, "liked(0, -1)", x.liked(0, -1), -2);
    due(23, "under(3)", x.under(3), -2);
    due(23, "under(-1)", x.under(-1), -2);
    x.forget();
    x.seen(4, 2, 0);
    due(22, "not started: never", x.liked(0, 0), 0);
    x.forget();
    x.seen(99, 3, 0);
    due(22, "no such boat: never", x.liked(0, 0), 0);
    x.forget();
    x.seen(99, 0, 2);
    due(22, "no such bridge: never", x.liked(0, 0), 0);
    due(23, "no such bridge: never", x.under(0), 0);
    x.forget();
    seenEdges(x);
    underAtEveryBridge();
  }

  /** A mark more is carried at odd bridges too, as a sham is not. */
  private static void underAtEveryBridge() {
    BowingBridges x = cut("la1;la1", "0");
    x.seen(9, 0, 2);
    due(23, "an a brings it through both", x.under(0), 1);
    x.forget();
    x.seen(9, 0, 1);
    due(23, "nothing brings it to the second alone", x.under(0), 0);
  }

  private static void seenEdges(BowingBridges x) {
    due(20, "seen(-1, 0, 0)", x.seen(-1, 0, 0), -2);
    due(20, "seen(100, 0, 0)", x.seen(100, 0, 0), -2);
    due(20, "seen(0, -1, 0)", x.seen(0, -1, 0), -2);
    due(20, "seen(0, 8, 0)", x.seen(0, 8, 0), -2);
    due(20, "seen(0, 0, -1)", x.seen(0, 0, -1), -2);
    due(20, "seen(0, 0, 9)", x.seen(0, 0, 9), -2);
    for (int i = 1; i <= 8; i++) {
      due(20, "seen(99, 7, 8)", x.seen(99, 7, 8), i);
    }
    due(20, "a ninth", x.seen(0, 0, 0), -4);
    due(20, "BAD is ahead of FULL", x.seen(0, 0, 9), -2);
    due(33, "count(7)", x.count(7), 8);
    due(21, "forget()", x.forget(), 8);
  }

  private static void ask() {
    BowingBridges x = cut("la1", "5;b2;a0");
    due(24, "ask(0, 4)", x.ask(0, 4), 2);
    due(24, "ask(0, 0)", x.ask(0, 0), 2);
    due(24, "ask(1, 0)", x.ask(1, 0), -2);
    due(24, "ask(-1, 0)", x.ask(-1, 0), -2);
    due(24, "ask(0, 100)", x.ask(0, 100), -2);
    due(24, "ask(0, -1)", x.ask(0, -1), -2);
    x.seen(4, 1, 1);
    due(24, "one mark is left: all are like", x.ask(0, 4), 0);
    x.seen(4, 1, 0);
    due(24, "no mark is left: all are like", x.ask(0, 4), 0);
    x.wipe(1);
    due(24, "no boats", x.ask(0, 4), -1);
    x.wipe(0);
    due(24, "no bridges", x.ask(0, 4), -2);
  }

  private static void chanceIs(BowingBridges x, int c, int boat, int step, long above, long below) {
    String call = "believed(" + c + ", " + boat + ", " + step + ")";
    due(25, call + " above", x.believed(c, boat, step, 0), above);
    due(25, call + " below", x.believed(c, boat, step, 1), below);
  }

  private static void believed() {
    BowingBridges x = cut("la1", "3;b3");
    chanceIs(x, 4, 0, 99, 0, 1);
    x.sham(0, 0);
    chanceIs(x, 4, 0, 99, 1, 4);
    chanceIs(x, 4, 1, 99, 1, 4);
    chanceIs(x, 5, 0, 3, 5, 16);
    chanceIs(x, 5, 0, 2, 0, 1);
    chanceIs(x, 0, 0, 99, 0, 1);
    chanceIs(x, 16, 0, 99, 1, 1);
    x.sham(0, 0);
    chanceIs(x, 4, 0, 99, 7, 16);
    due(25, "shams stand behind it", x.lifts(0, 0), 1);
    for (int i = 0; i < 6; i++) {
      x.sham(0, 0);
    }
    chanceIs(x, 5, 0, 99, 4080608415L, 4294967296L);
    x.wipe(0);
    type(x, 0, "la8");
    chanceIs(x, 8, 0, 99, 1, 256);
    due(25, "all shams stand behind it", x.lifts(0, 0), 1);
    chanceIs(x, 16, 0, 99, 1, 1);
    due(25, "believed(-1, ..)", x.believed(-1, 0, 0, 0), BAD_LONG);
    due(25, "believed(17, ..)", x.believed(17, 0, 0, 0), BAD_LONG);
    due(25, "no such boat", x.believed(0, 2, 0, 0), BAD_LONG);
    due(25, "no such boat", x.believed(0, -1, 0, 0), BAD_LONG);
    due(25, "no such step", x.believed(0, 0, 100, 0), BAD_LONG);
    due(25, "no such step", x.believed(0, 0, -1, 0), BAD_LONG);
    due(25, "what = 2", x.believed(0, 0, 0, 2), BAD_LONG);
    due(25, "what = -1", x.believed(0, 0, 0, -1), BAD_LONG);
    BowingBridges y = cut("la2", "0");
    y.sham(0, 0);
    y.sham(0, 0);
    chanceIs(y, 4, 0, 99, 1, 16);
    y.back();
    chanceIs(y, 4, 0, 99, 0, 1);
    y.wipe(0);
    chanceIs(y, 4, 0, 0, 1, 1);
  }

  private static void loads() {
    // The first lot by seed 0 is 12345 >>> 16, which is 0.
    BowingBridges x = cut("la1", "b2");
    due(26, "loads(0, 1, 0, 0)", x.loads(0, 1, 0, 0), 1);
    due(26, "loads(0, 1, 0, 1)", x.loads(0, 1, 0, 1), 0);
    due(26, "loads(0, 0, 0, 0)", x.loads(0, 0, 0, 0), 0);
    due(26, "loads(0, 0, 0, 1)", x.loads(0, 0, 0, 1), 98);
    due(26, "the boat's marks stand", x.boat(0, 1), 1);
    // By seed 1 it is 1103527590 >>> 16 = 16838, modulo 6: 2; by seed -1 it is -1103502900 >>> 16 = 48697: 1.
    due(26, "seed 1 is not a", x.loads(1, 1, 0, 0), 0);
    x.wipe(0);
    type(x, 0, "lc1");
    due(26, "seed 1 is c", x.loads(1, 1, 0, 0), 1);
    due(26, "seed -1 is not c", x.loads(-1, 1, 0, 0), 0);
    x.wipe(0);
    type(x, 0, "lb1");
    due(26, "seed -1 is b", x.loads(-1, 1, 0, 0), 1);
    due(26, "six lots", x.loads(-1, 6, 0, 0), 1);
    due(26, "n = -1", x.loads(0, -1, 0, 0), -2);
    due(26, "n = 7", x.loads(0, 7, 0, 0), -2);
    due(26, "no such boat", x.loads(0, 0, 1, 0), -2);
    due(26, "no such boat", x.loads(0, 0, -1, 0), -2);
    due(26, "what = 2", x.loads(0, 0, 0, 2), -2);
    due(26, "what = -1", x.loads(0, 0, 0, -1), -2);
    BowingBridges y = cut("nb1", "b0");
    due(26, "its own marks do not count", y.loads(5, 0, 0, 0), 1);
    y.sham(0, 1);
    due(26, "its shams do", y.loads(5, 0, 0, 0), 0);
  }

  private static void sheets() {
    BowingBridges x = new BowingBridges();
    due(27, "sheet(-1, 0, 0)", x.sheet(-1, 0, 0), -2);
    due(27, "sheet(4, 0, 0)", x.sheet(4, 0, 0), -2);
    due(27, "sheet(0, -1, 0)", x.sheet(0, -1, 0), -2);
    due(27, "sheet(0, 3, 0)", x.sheet(0, 3, 0), -2);
    due(27, "sheet(0, 0, 61)", x.sheet(0, 0, 61), -2);
    due(27, "BAD is ahead of SIZE", x.sheet(0, 3, -1), -2);
    due(27, "no finding yet", x.count(8), 0);
    due(27, "sheet(0, 0, -1)", x.sheet(0, 0, -1), -15);
    due(27, "count(8)", x.count(8), 5);
    due(27, "it is still lost", x.lose(0), -11);
    due(27, "sheet(0, 0, 60)", x.sheet(0, 0, 60), 60);
    due(27, "sheet(1, 1, 0)", x.sheet(1, 1, 0), 0);
    due(27, "sheet(3, 2, 2)", x.sheet(3, 2, 2), 2);
    due(29, "lay(0, 0, 59, 200)", x.lay(0, 0, 59, 200), 1);
    due(30, "a byte has eight bits", x.get(0, 0, 59), -56);
    x.sheet(2, 1, 1);
    due(29, "lay(2, 1, 0, 70000)", x.lay(2, 1, 0, 70000), 1);
    due(30, "a short has sixteen", x.get(2, 1, 0), 4464);
    x.lay(2, 1, 0, 32768);
    due(30, "the highest tells below 0", x.get(2, 1, 0), -32768);
    due(29, "lay(3, 2, 1, least)", x.lay(3, 2, 1, LEAST + 1), 1);
    due(30, "an int", x.get(3, 2, 1), LEAST + 1);
    due(30, "0 at first", x.get(3, 2, 0), 0);
    x.sheet(3, 2, 2);
    due(27, "a new row is 0", x.get(3, 2, 1), 0);
    itemRefusals(x);
    due(28, "lose(-1)", x.lose(-1), -2);
    due(28, "lose(4)", x.lose(4), -2);
    due(28, "lose(0)", x.lose(0), 60);
    due(28, "lose(0)", x.lose(0), -11);
    due(28, "count(8)", x.count(8), 1);
    due(28, "lose of no items", x.lose(1), 0);
  }

  private static void itemRefusals(BowingBridges x) {
    x.lose(2);
    due(29, "lay(-1, ..)", x.lay(-1, 0, 0, 0), -2);
    due(29, "lay(4, ..)", x.lay(4, 0, 0, 0), -2);
    due(29, "lay(.., -1, ..)", x.lay(0, -1, 0, 0), -2);
    due(29, "BAD is ahead of NULL", x.lay(2, 3, 0, 0), -2);
    due(29, "NULL is ahead of CAST, INDEX", x.lay(2, 0, 99, 0), -11);
    due(29, "CAST is ahead of INDEX", x.lay(0, 1, 99, 0), -13);
    due(29, "count(8)", x.count(8), 3);
    due(29, "INDEX", x.lay(0, 0, 60, 0), -12);
    due(29, "INDEX below 0", x.lay(0, 0, -1, 0), -12);
    due(29, "INDEX of no items", x.lay(1, 1, 0, 0), -12);
    due(29, "count(8)", x.count(8), 2);
    due(30, "get of a lost one", x.get(2, 0, 99), LEAST);
    due(30, "count(8)", x.count(8), 1);
    due(30, "get(4, ..)", x.get(4, 0, 0), LEAST);
    due(30, "get(-1, ..)", x.get(-1, 0, 0), LEAST);
    due(30, "get(0, 3, 0)", x.get(0, 3, 0), LEAST);
    due(30, "get(0, -1, 0)", x.get(0, -1, 0), LEAST);
    due(30, "BAD is no finding", x.count(8), 1);
    due(30, "get as another form", x.get(0, 1, 99), LEAST);
    due(30, "count(8)", x.count(8), 3);
    due(30, "get behind the end", x.get(0, 0, 60), LEAST);
    due(30, "count(8)", x.count(8), 2);
    due(30, "get below 0", x.get(0, 0, -1), LEAST);
  }

  private static void copying() {
    BowingBridges x = new BowingBridges();
    lay(x, 0, 1, 1, 2, 3, 4, 5);
    x.sheet(1, 1, 3);
    x.sheet(2, 2, 5);
    due(31, "copy(0, 1, 1, 0, 3)", x.copy(0, 1, 1, 0, 3), 1);
    for (int i = 0; i < 3; i++) {
      due(31, "get(1, 1, " + i + ")", x.get(1, 1, i), i + 2);
    }
    due(31, "copy(0, 0, 0, 1, 4)", x.copy(0, 0, 0, 1, 4), 1);
    for (int i = 0; i < 5; i++) {
      due(31, "as they were, " + i, x.get(0, 1, i), i == 0 ? 1 : i);
    }
    due(31, "none at the end", x.copy(0, 5, 1, 3, 0), 1);
    due(31, "copy(-1, ..)", x.copy(-1, 0, 0, 0, 0), -2);
    due(31, "BAD is ahead of NULL", x.copy(3, 0, 4, 0, 0), -2);
    due(31, "NULL: s", x.copy(3, 0, 0, 0, 0), -11);
    due(31, "NULL: t", x.copy(0, 9, 3, 0, 0), -11);
    due(31, "STORE is ahead of INDEX", x.copy(0, -1, 2, 0, 0), -14);
    due(31, "count(8)", x.count(8), 4);
    due(31, "i below 0", x.copy(0, -1, 1, 0, 1), -12);
    due(31, "j below 0", x.copy(0, 0, 1, -1, 1), -12);
    due(31, "n below 0", x.copy(0, 0, 1, 0, -1), -12);
    due(31, "not so many from", x.copy(1, 1, 0, 0, 3), -12);
    due(31, "not so many to", x.copy(0, 0, 1, 1, 3), -12);
    due(31, "behind the end", x.copy(0, 6, 1, 0, 0), -12);
    due(31, "a sum that wraps", x.copy(0, 1, 1, 1, Integer.MAX_VALUE), -12);
    due(31, "a sum that wraps", x.copy(0, Integer.MAX_VALUE, 1, 0, 1), -12);
    due(31, "count(8)", x.count(8), 2);
  }

  private static void writing() {
    BowingBridges x = cut("la1", "a0;b0;0;7");
    lay(x, 0, 0, 9, 9, 9, 9, 9, 9);
    due(32, "write(0, 0)", x.write(0, 0), 4);
    int[] want = {1, 1, 0, -1, 9, 9};
    for (int i = 0; i < want.length; i++) {
      due(32, "item " + i, x.get(0, 0, i), want[i]);
    }
    lay(x, 1, 2, 9, 9);
    due(32, "write(0, 1)", x.write(0, 1), 2);
    due(32, "get(1, 2, 1)", x.get(1, 2, 1), 1);
    x.sheet(1, 1, 0);
    due(32, "no items", x.write(0, 1), 0);
    due(32, "write(100, 0)", x.write(100, 0), -2);
    due(32, "write(-1, 2)", x.write(-1, 2), -2);
    due(32, "write(0, 4)", x.write(0, 4), -2);
    due(32, "write(0, -1)", x.write(0, -1), -2);
    due(32, "write to a lost one", x.write(0, 2), -11);
    due(32, "count(8)", x.count(8), 1);
  }

  private static void counting() {
    BowingBridges x = cut("la1;nb1", "a0;b0;0");
    x.sham(7, 0);
    x.seen(0, 0, 0);
    int[] want = {2, 3, 7, 7, 1, 2, 100, 1, 0};
    for (int what = 0; what < want.length; what++) {
      due(33, "count(" + what + ")", x.count(what), want[what]);
    }
    due(33, "count(9)", x.count(9), -2);
    due(33, "count(-1)", x.count(-1), -2);
    type(x, 0, ";");
    due(33, "no bridges with a fault", x.count(0), 0);
    due(33, "bytes of a text with a fault", x.count(2), 8);
    due(33, "all are through", x.count(5), 3);
    due(33, "none waits", x.count(6), 0);
  }

  private static void digests() {
    long h = 17;
    int[] empty = {0, 0, 0, 0, 0, 0, 0, 0, -1, -1, 0, -1, -1, -1, -1};
    for (int v : empty) {
      h = 31 * h + v;
    }
    BowingBridges x = new BowingBridges();
    due(34, "digest() of a new object", x.digest(), h);
    x.lose(0);
    due(34, "a finding is not in it", x.digest(), h);
    x.sham(0, 0);
    due(34, "a sham is", x.digest() == h ? 1 : 0, 0);
    x.back();
    due(34, "behind back()", x.digest(), h);
    BowingBridges y = cut("la1;nb1;mc2;la2;lb1", "ab0;c1;aac3;bcd0;9");
    y.sham(1, 0);
    y.sham(3, 1);
    y.seen(9, 0, 2);
    due(34, "digest() of five bridges and boats", y.digest(), digestOf(y, 5, 5));
  }

  private static long hash;

  private static void mix(long... values) {
    for (long v : values) {
      hash = 31 * hash + v;
    }
  }

  private static long digestOf(BowingBridges x, int bridges, int boats) {
    hash = 17;
    for (int what = 0; what < 8; what++) {
      mix(x.count(what));
    }
    mix(x.fault(0), x.fault(1));
    for (int g = 0; g < bridges; g++) {
      mix(x.bridge(g, 0), x.bridge(g, 1), x.bridge(g, 2), x.liked(g, 0), x.liked(g, 1), x.ask(g, 5));
      for (int b = 0; b < boats; b++) {
        mix(x.lifts(g, b), x.passes(g, b, 0), x.passes(g, b, 1));
      }
    }
    for (int b = 0; b < boats; b++) {
      for (int what = 0; what < 7; what++) {
        mix(x.boat(b, what));
      }
      mix(x.at(5, b), x.at(30, b), x.waits(b), x.cargo(b, -1), x.cargo(b, 0), x.sail(b, 0), x.sail(b, 1), x.under(b));
      mix(x.believed(5, b, 20, 0), x.believed(5, b, 20, 1), x.loads(7, 4, b, 0), x.loads(7, 4, b, 1));
    }
    mix(x.through(9), x.first(0), x.first(1), x.away(0), x.away(1));
    return hash;
  }
}
