import java.io.IOException;
import java.math.BigInteger;
import java.nio.file.Files;
import java.nio.file.Path;
import java.util.ArrayList;
import java.util.Arrays;
import java.util.List;
import java.util.function.Supplier;

/**
 * The document, sentence by sentence: the last input that is still taken, the first that is refused, and what each
 * answers. What is tested is quoted, and everyWordIsQuoted() looks whether any part of the document has been left out.
 */
public final class BoundariesTest {
  private static final int NONE = -1, BAD = -2, NOT = -3, FULL = -4;
  private static final int NULL = -11, INDEX = -12, CAST = -13, STORE = -14, SIZE = -15;
  private static final int LEAST = Integer.MIN_VALUE, MOST = Integer.MAX_VALUE;
  private static final long BAD_LONG = Long.MIN_VALUE + 2;
  private static final String EIGHT_BRIDGES = "la1;la1;la1;la1;la1;la1;la1;la1";
  private static final String EIGHT_BOATS =
      "abcdef0;abcdef0;abcdef0;abcdef0;abcdef0;abcdef0;abcdef0;abcdef0";

  private static final List<String> QUOTES = new ArrayList<>();
  private static String quote = "";
  private static int wrong = 0;

  private interface Act {
    long on(BowingBridges x);
  }

  private interface ActWith {
    long on(BowingBridges x, int number);
  }

  public static void main(String[] args) throws IOException {
    bridgeText();
    boatText();
    faults();
    shamTerms();
    liftTerms();
    stepTerms();
    fractionsAndLots();
    sheetTerms();
    whereAndWhen();
    plans();
    whatWasSeen();
    chanceAndLoads();
    refusals();
    promises1To10();
    promises11To19();
    promises20To26();
    promises27To34();
    everyWordIsQuoted();
    System.out.println(wrong == 0 ? "all answers are as due" : wrong + " answers are not as due");
    if (wrong != 0) {
      System.exit(1);
    }
  }

  // ---- what the tests share

  private static void sentence(String words) {
    quote = words;
    QUOTES.add(words);
  }

  private static void due(String call, long got, long want) {
    if (got != want) {
      wrong++;
      System.out.println("'" + quote + "': " + call + " answered " + got + ", due is " + want);
    }
  }

  private static void type(BowingBridges x, int text, String s) {
    for (int i = 0; i < s.length(); i++) {
      x.type(text, s.charAt(i));
    }
  }

  private static BowingBridges cut(String bridges, String boats) {
    BowingBridges x = new BowingBridges();
    type(x, 0, bridges);
    type(x, 1, boats);
    return x;
  }

  /** With so many shams of a mark for a boat. */
  private static BowingBridges shammed(String bridges, String boats, int many, int boat, int mark) {
    BowingBridges x = cut(bridges, boats);
    for (int i = 0; i < many; i++) {
      x.sham(boat, mark);
    }
    return x;
  }

  private static void lay(BowingBridges x, int s, int form, int... items) {
    x.sheet(s, form, items.length);
    for (int i = 0; i < items.length; i++) {
      x.lay(s, form, i, items[i]);
    }
  }

  /** Something of each kind: 5 bridges, 8 boats, 2 shams, 2 sightings, sheets of each form, one lost, a finding. */
  private static BowingBridges rich() {
    BowingBridges x = cut("la1;nb1;mc2;la2;lb1", "ab0;c1;aac3;bcd0;9;2;e4;aabbcc5");
    x.sham(1, 0);
    x.sham(7, 1);
    x.seen(0, 4, 0);
    x.forget();
    x.seen(0, 0, 1);
    x.seen(99, 5, x.at(99, 5));
    lay(x, 0, 0, 7, -8, 9);
    x.sheet(1, 1, 0);
    lay(x, 2, 2, 1, 2, 3, 4, 5);
    x.sheet(3, 0, -1);
    return x;
  }

  /** All that has a greatest number has it. */
  private static BowingBridges full() {
    BowingBridges x = cut(EIGHT_BRIDGES, EIGHT_BOATS);
    for (int i = 0; i < 8; i++) {
      x.sham(i, i % 6);
      x.seen(99, i, 8);
    }
    x.sheet(0, 0, -1);
    return x;
  }

  /** As full(), but nothing can be told of it: no text is well. */
  private static BowingBridges faulty() {
    BowingBridges x = rich();
    x.type(0, ';');
    x.type(1, ';');
    return x;
  }

  /** All that calls tell of an object but the finding that it came with. */
  private static List<Long> allOf(BowingBridges x) {
    List<Long> all = new ArrayList<>();
    x.sheet(0, 0, -1);
    for (int s = 0; s < 4; s++) {
      for (int form = 0; form < 3; form++) {
        for (int i = 0; i < 7; i++) {
          all.add((long) x.get(s, form, i));
          all.add((long) x.count(8));
        }
      }
    }
    all.add(x.digest());
    all.add((long) x.forget());
    for (int i = 0; i < 9; i++) {
      all.add((long) x.back());
      all.add(x.digest());
    }
    // A text with a fault tells nothing until the faulty bytes are gone.
    for (int i = 0; i < 4; i++) {
      all.add((long) x.undo(0));
      all.add((long) x.undo(1));
      all.add(x.digest());
    }
    return all;
  }

  /** The call is refused so, with this finding (0: none), and nothing else has changed. */
  private static void refused(Supplier<BowingBridges> start, String call, Act act, long answer, int finding) {
    BowingBridges x = start.get();
    BowingBridges twin = start.get();
    due(call, act.on(x), answer);
    due("count(8) behind " + call, x.count(8), finding == 0 ? twin.count(8) : finding);
    due("all is as it was behind " + call + ": 1 ", allOf(x).equals(allOf(twin)) ? 1 : 0, 1);
  }

  private static void refused(Supplier<BowingBridges> start, String call, Act act, int answer) {
    refused(start, call, act, answer, answer <= NULL && answer >= SIZE ? -10 - answer : 0);
  }

  /** A number from least to most is taken, any other is refused. */
  private static void limits(
      Supplier<BowingBridges> start, String call, int least, int most, ActWith act, long refusal) {
    for (int number : new int[] {least, most}) {
      due(call + " of " + number + " is refused: 0 ", act.on(start.get(), number) == refusal ? 1 : 0, 0);
    }
    for (int number : new int[] {least - 1, most + 1, LEAST, MOST}) {
      refused(start, call + " of " + number, x -> act.on(x, number), refusal, 0);
    }
  }

  private static void limits(Supplier<BowingBridges> start, String call, int least, int most, ActWith act) {
    limits(start, call, least, most, act, BAD);
  }

  /** The fault, and that with one there is nothing. */
  private static void fault(int text, String s, int place, int many) {
    BowingBridges x = new BowingBridges();
    type(x, text, s);
    due("fault of " + s, x.fault(text), place);
    due("how many of " + s, x.count(text), many);
  }

  /** With each byte between the two parts: only those from least to most are well. */
  private static void onlyBytes(int text, String ahead, String behind, int least, int most) {
    for (int b = 0; b < 256; b++) {
      String s = ahead + (char) b + behind;
      BowingBridges x = new BowingBridges();
      type(x, text, s);
      boolean well = b >= least && b <= most;
      due("fault with byte " + b + " behind '" + ahead + "'", x.fault(text), well ? NONE : ahead.length());
    }
  }

  // ---- Terms: texts

  private static void bridgeText() {
    sentence("BRIDGES are a text of up to 31 bytes (text 0)");
    BowingBridges x = new BowingBridges();
    type(x, 0, EIGHT_BRIDGES.substring(0, 30));
    due("the 31st byte", x.type(0, '1'), 31);
    due("the 32nd byte", x.type(0, ';'), FULL);
    due("count(2)", x.count(2), 31);
    due("fault(0)", x.fault(0), NONE);

    sentence("8 at most (0 on, along the cut)");
    x = cut("la1;nb2;mc3;ld4;ne5;mf6;la7;nb8", "a0");
    due("count(0)", x.count(0), 8);
    due("the first one's MANY", x.bridge(0, 2), 1);
    due("the last one's MANY", x.bridge(7, 2), 8);
    due("a ninth", x.bridge(8, 2), BAD);
    due("a boat comes to the first one first", cut("la1;lb1", "b0").at(99, 0), 0);
    due("and to the second one second", cut("la1;lb1", "a0").at(99, 0), 1);

    sentence("with ; between them");
    onlyBytes(0, "la1", "la1", ';', ';');
    onlyBytes(1, "0", "0", ';', ';');
    fault(0, ";la1", 0, 0);
    fault(0, "la1;;la1", 4, 0);
    fault(0, "la1la1", 3, 0);
    fault(0, "la1;la1;", 8, 0);
    fault(1, ";0", 0, 0);
    fault(1, "0;;0", 2, 0);
    fault(1, "0;0;", 4, 0);

    sentence("l (one that likes), n (one that snubs) or m (one that weighs)");
    onlyBytes(0, "", "a1", 'l', 'n');
    String kinds = "lnm";
    for (int kind = 0; kind < 3; kind++) {
      due("the kind of " + kinds.charAt(kind), cut(kinds.charAt(kind) + "a1", "").bridge(0, 0), kind);
    }

    sentence("a letter a to f, its MARK (0 to 5)");
    onlyBytes(0, "l", "1", 'a', 'f');
    for (int mark = 0; mark < 6; mark++) {
      due("MARK", cut("n" + (char) ('a' + mark) + "1", "").bridge(0, 1), mark);
    }

    sentence("and a figure, how MANY (1 to 9)");
    onlyBytes(0, "la", "", '1', '9');
    for (int many = 1; many <= 9; many++) {
      due("MANY", cut("la" + many, "").bridge(0, 2), many);
    }
    fault(0, "la10", 3, 0);
  }

  private static void boatText() {
    sentence("BOATS are a text of up to 63 bytes (text 1)");
    BowingBridges x = new BowingBridges();
    type(x, 1, EIGHT_BOATS.substring(0, 62));
    due("the 63rd byte", x.type(1, '9'), 63);
    due("the 64th byte", x.type(1, ';'), FULL);
    due("count(3)", x.count(3), 63);
    due("fault(1)", x.fault(1), NONE);
    due("the last START", x.boat(7, 6), 9);

    sentence("8 at most (0 on)");
    x = cut("", "0;1;2;3;4;5;6;7");
    due("count(1)", x.count(1), 8);
    due("the first one's START", x.boat(0, 6), 0);
    due("the last one's START", x.boat(7, 6), 7);
    due("a ninth", x.boat(8, 6), BAD);
    fault(1, "0;1;2;3;4;5;6;7;8", 16, 0);

    sentence("0 to 6 letters a to f, MARKS that it carries");
    for (int b = 0; b < 256; b++) {
      boolean letter = b >= 'a' && b <= 'f';
      boolean figure = b >= '0' && b <= '9';
      fault(1, "a" + (char) b, figure ? NONE : letter ? 2 : 1, figure ? 1 : 0);
    }
    due("no letters", cut("", "0").boat(0, 0), 0);
    due("six letters", cut("", "aaaaaa0").boat(0, 0), 6);
    x = cut("", "fbfbff9");
    due("two of b", x.boat(0, 1), 2);
    due("four of f", x.boat(0, 5), 4);
    fault(1, "aaaaaaa0", 6, 0);

    sentence("and a figure, its START (0 to 9)");
    onlyBytes(1, "abcdef", "", '0', '9');
    for (int start = 0; start <= 9; start++) {
      due("START", cut("", "a" + start).boat(0, 6), start);
    }
    fault(1, "10", 1, 0);
  }

  private static void faults() {
    sentence("The FAULT of a text is the place of the first byte with which it cannot go on");
    fault(0, "lz0;xx", 1, 0);
    fault(0, "la0x", 2, 0);
    fault(0, "x", 0, 0);
    fault(0, "la1;na1;ma1;xa1", 12, 0);
    fault(0, EIGHT_BRIDGES.substring(0, 30) + "0", 30, 0);
    fault(1, "az;z", 1, 0);
    fault(1, EIGHT_BOATS.substring(0, 62) + ":", 62, 0);

    sentence("(an empty one is well;");
    fault(0, "", NONE, 0);
    fault(1, "", NONE, 0);
    BowingBridges x = cut("x", "x");
    x.undo(0);
    x.wipe(1);
    due("fault(0) behind undo", x.fault(0), NONE);
    due("fault(1) behind wipe", x.fault(1), NONE);

    sentence("of one that is not ended, its end)");
    fault(0, "l", 1, 0);
    fault(0, "la", 2, 0);
    fault(0, "la1", NONE, 1);
    fault(0, "la1;", 4, 0);
    fault(0, EIGHT_BRIDGES.substring(0, 30), 30, 0);
    fault(1, "a", 1, 0);
    fault(1, "abcdef", 6, 0);
    fault(1, "abcdef0", NONE, 1);
    fault(1, "abcdef0;", 8, 0);
    fault(1, EIGHT_BOATS.substring(0, 62), 62, 0);

    x = cut("la1", "a0");
    x.undo(0);
    x.undo(1);
    due("of one that is not ended any more", x.fault(0), 2);
    due("of the other", x.fault(1), 1);

    sentence("here also of a seventh MARK");
    fault(1, "abcdefa", 6, 0);
    fault(1, "abcdefx", 6, 0);
    fault(1, "0;aaaaaaa0", 8, 0);

    sentence("of the first byte of a ninth.");
    fault(1, "0;0;0;0;0;0;0;0", NONE, 8);
    fault(1, "0;0;0;0;0;0;0;0;", 16, 0);
    fault(1, "0;0;0;0;0;0;0;0;a", 16, 0);
    fault(1, "0;0;0;0;0;0;0;0;a0", 16, 0);
    fault(1, "0;0;0;0;0;0;0;0;0", 16, 0);
    fault(1, "0;0;0;0;0;0;0;0;;", 16, 0);
    fault(1, "0;0;0;0;0;0;0;0a", 15, 0);
    fault(1, "0;0;0;0;0;0;0;a", 15, 0);

    sentence("With a FAULT a text is as if it was empty.");
    x = cut("la1;", "a3");
    due("no BRIDGES: count(0)", x.count(0), 0);
    due("no BRIDGES: bridge(0, 0)", x.bridge(0, 0), BAD);
    due("no BRIDGES: lifts(0, 0)", x.lifts(0, 0), BAD);
    due("no BRIDGES: through(3)", x.through(3), 1);
    due("no BRIDGES: away(0)", x.away(0), NONE);
    due("its bytes stand", x.count(2), 4);
    x = cut("la1", "a3;");
    due("no BOATS: count(1)", x.count(1), 0);
    due("no BOATS: boat(0, 0)", x.boat(0, 0), BAD);
    due("no BOATS: at(99, 0)", x.at(99, 0), BAD);
    due("no BOATS: through(99)", x.through(99), 0);
    due("no BOATS: ask(0, 0)", x.ask(0, 0), NONE);
    due("its bytes stand", x.count(3), 3);
    due("the other text stands", x.bridge(0, 2), 1);
    due("well again", x.undo(1), 2);
    due("at(99, 0)", x.at(99, 0), 1);
  }

  // ---- Terms: shams, lifting, steps

  private static void shamTerms() {
    sentence("SHAMS, 8 at most (0 on):");
    BowingBridges x = shammed("la8", "0", 7, 0, 0);
    due("seven are too few", x.lifts(0, 0), 0);
    due("the eighth", x.sham(0, 0), 8);
    due("eight are enough", x.lifts(0, 0), 1);
    due("a ninth", x.sham(0, 0), FULL);

    sentence("of a MARK for a BOAT (0 to 7):");
    x = cut("lf1", "0;0;0;0;0;0;0;0");
    due("of MARK 5 for BOAT 7", x.sham(7, 5), 1);
    due("lifts(0, 7)", x.lifts(0, 7), 1);
    due("lifts(0, 6)", x.lifts(0, 6), 0);
    x = cut("lf1", "0");
    due("for one that there is not", x.sham(7, 5), 1);
    type(x, 1, ";0;0;0;0;0;0;0");
    due("that comes later", x.lifts(0, 7), 1);

    sentence("at BRIDGES of even numbers it carries one more of that, at others not.");
    x = shammed(EIGHT_BRIDGES, "0", 1, 0, 0);
    for (int bridge = 0; bridge < 8; bridge++) {
      due("lifts(" + bridge + ", 0)", x.lifts(bridge, 0), bridge % 2 == 0 ? 1 : 0);
    }
    due("it carries no more of it itself", x.boat(0, 0), 0);
    x = cut("la1", "0;0");
    x.sham(1, 0);
    x.back();
    due("not when it is undone", x.lifts(0, 1), 0);
    due("not for another BOAT", shammed("la1", "0;0", 1, 1, 0).lifts(0, 0), 0);
    due("not of another MARK", shammed("la1", "0", 1, 0, 1).lifts(0, 0), 0);
    due("two are two more", shammed("la2", "0", 2, 0, 0).lifts(0, 0), 1);
  }

  private static void liftTerms() {
    sentence("A BRIDGE LIFTS for a BOAT: one that likes, if it carries MANY of its MARK, or more;");
    due("none", cut("la1", "bcdef0").lifts(0, 0), 0);
    due("one", cut("la1", "bcdefa0").lifts(0, 0), 1);
    due("one fewer than 6", cut("lf6", "fffff0").lifts(0, 0), 0);
    due("6", cut("lf6", "ffffff0").lifts(0, 0), 1);
    due("one more than 5", cut("lf5", "ffffff0").lifts(0, 0), 1);
    due("one fewer than 9", shammed("la9", "aaaaaa0", 2, 0, 0).lifts(0, 0), 0);
    due("9", shammed("la9", "aaaaaa0", 3, 0, 0).lifts(0, 0), 1);
    due("14, the most", shammed("la9", "aaaaaa0", 8, 0, 0).lifts(0, 0), 1);

    sentence("one that snubs, if it carries fewer;");
    due("none", cut("na1", "bcdef0").lifts(0, 0), 1);
    due("one", cut("na1", "a0").lifts(0, 0), 0);
    due("one fewer than 6", cut("nf6", "fffff0").lifts(0, 0), 1);
    due("6", cut("nf6", "ffffff0").lifts(0, 0), 0);
    due("one fewer than 9", shammed("na9", "aaaaaa0", 2, 0, 0).lifts(0, 0), 1);
    due("9", shammed("na9", "aaaaaa0", 3, 0, 0).lifts(0, 0), 0);

    sentence("one that weighs, if all that it carries is worth 3 times MANY, or more");
    due("worth 2", cut("ma1", "aa0").lifts(0, 0), 0);
    due("worth 3", cut("ma1", "aaa0").lifts(0, 0), 1);
    due("worth 4", cut("ma1", "aaaa0").lifts(0, 0), 1);
    due("worth 26", cut("mf9", "bffff0").lifts(0, 0), 0);
    due("worth 27", cut("mf9", "cffff0").lifts(0, 0), 1);
    due("worth 36, the most that is carried", cut("mf9", "ffffff0").lifts(0, 0), 1);
    due("worth 8 by a SHAM", shammed("ma3", "ae0", 1, 0, 1).lifts(0, 0), 0);
    due("worth 9 by a SHAM", shammed("ma3", "ae0", 1, 0, 2).lifts(0, 0), 1);
    due("no SHAM is worth anything at odd ones", shammed("la1;ma3", "ae0", 1, 0, 2).lifts(1, 0), 0);
    due("worth 8 at odd ones", cut("la1;ma3", "abe0").lifts(1, 0), 0);
    due("worth 9 at odd ones", cut("la1;ma3", "ace0").lifts(1, 0), 1);

    sentence("(a MARK is worth its number and 1), and it carries its MARK.");
    // Nine is what d and e, or c and f, are worth together: each letter with one more, and one less.
    String[] nine = {"ac" + "e", "bb" + "e", "cf", "de", "ed", "fc"};
    String[] eight = {"acd", "bf", "ce", "dd", "ec", "fb"};
    for (int mark = 0; mark < 6; mark++) {
      String bridge = "m" + (char) ('a' + mark) + "3";
      due(bridge + " of worth 9", cut(bridge, nine[mark] + "0").lifts(0, 0), 1);
      due(bridge + " of worth 8", cut(bridge, eight[mark] + "0").lifts(0, 0), 0);
    }
    due("worth enough, without its MARK", cut("ma9", "ffffff0").lifts(0, 0), 0);
    due("its MARK alone, of too little worth", cut("mb1", "b0").lifts(0, 0), 0);
    due("a SHAM of its MARK", shammed("ma9", "ffffff0", 1, 0, 0).lifts(0, 0), 1);
    due("no SHAM of its MARK at odd ones", shammed("la1;ma9", "ffffff0", 1, 0, 0).lifts(1, 0), 0);
  }

  private static void stepTerms() {
    sentence("STEPS are 0 to 99.");
    limits(BoundariesTest::rich, "at(step, 0)", 0, 99, (x, step) -> x.at(step, 0));
    limits(BoundariesTest::rich, "through(step)", 0, 99, (x, step) -> x.through(step));
    limits(BoundariesTest::rich, "seen(step, 0, 0)", 0, 99, (x, step) -> x.seen(step, 0, 0));
    limits(BoundariesTest::rich, "ask(0, step)", 0, 99, (x, step) -> x.ask(0, step));
    limits(BoundariesTest::rich, "believed(0, 0, step, 0)", 0, 99, (x, step) -> x.believed(0, 0, step, 0), BAD_LONG);
    limits(BoundariesTest::rich, "write(step, 0)", 0, 99, (x, step) -> x.write(step, 0));
    due("all 100 are waited in", cut("la1", "0").waits(0), 100);

    sentence("A BOAT is at BRIDGE 0 from the STEP of its START on.");
    for (int start = 0; start <= 9; start++) {
      BowingBridges x = cut("la1", "" + start);
      for (int step = 0; step < 12; step++) {
        due("at(" + step + ", 0) with START " + start, x.at(step, 0), step < start ? NONE : 0);
      }
      due("it may go on in that STEP", cut("la1", "a" + start).passes(0, 0, 0), start);
    }

    sentence("In a STEP, from the last BRIDGE to the first, of BOATS that are at it the least for which it LIFTS goes on"
        + " to the next BRIDGE (behind the last one it is THROUGH)");
    BowingBridges x = cut("na1;na1;na1", "0");
    for (int step = 0; step < 4; step++) {
      due("one BRIDGE in a STEP: at(" + step + ", 0)", x.at(step, 0), Math.min(step + 1, 3));
    }
    due("not THROUGH ahead of the last", x.through(1), 0);
    due("THROUGH behind the last", x.through(2), 1);
    x = cut("la1", "0;a0;0;a0;a0");
    due("the least for which it LIFTS", x.passes(0, 1, 0), 0);
    due("the next in the next STEP", x.passes(0, 3, 0), 1);
    due("and the next", x.passes(0, 4, 0), 2);
    due("none for which it LIFTS: none goes on", cut("la1", "0;0").through(99), 0);
    x = cut("na1;na1", "0;0;0");
    due("those ahead have gone when those behind come: at(1, 2)", x.at(1, 2), 1);
    due("at(2, 2)", x.at(2, 2), 2);

    sentence("and behind it slips the least other one that is at it, whether it would LIFT for that or not.");
    x = cut("la1", "0;0;a0;0");
    due("the least other one", x.passes(0, 0, 0), 0);
    due("slips", x.passes(0, 0, 1), 1);
    due("one alone", x.passes(0, 1, 0), NONE);
    due("the one that it LIFTS for slips not", x.passes(0, 2, 1), 0);
    x = cut("la1", "a0;a0");
    due("one for which it would LIFT", x.passes(0, 1, 0), 0);
    due("slips too", x.passes(0, 1, 1), 1);
    due("there is no other", cut("la1", "a0").passes(0, 0, 1), 0);
    x = cut("la1;lb1", "a0;0");
    due("none slips behind one that does not go on: at(99, 1)", x.at(99, 1), 1);
    due("one that has not started slips not", cut("la1", "a0;1").passes(0, 1, 0), NONE);
    due("one that has just started does", cut("la1", "a1;1").passes(0, 1, 0), 1);
  }

  // ---- Terms: fractions, lots, sheets

  private static void chance(String bridges, int shams, int c, long above, long below) {
    BowingBridges x = shammed(bridges, "0", shams, 0, 0);
    String call = "believed(" + c + ", 0, 99) of " + bridges + " and " + shams + " SHAMS";
    due(call + " above", x.believed(c, 0, 99, 0), above);
    due(call + " below", x.believed(c, 0, 99, 1), below);
  }

  /** The mark that is drawn by a seed, as the one bridge that lifts tells. */
  private static int drawn(int seed) {
    int bits = 0;
    for (int mark = 0; mark < 6; mark++) {
      bits |= cut("l" + (char) ('a' + mark) + "1", "0").loads(seed, 1, 0, 0) << mark;
    }
    return bits;
  }

  private static int nextSeed(int seed) {
    return BigInteger.valueOf(1103515245L).multiply(BigInteger.valueOf(seed)).add(BigInteger.valueOf(12345)).intValue();
  }

  private static int lot(int seed) {
    return (int) ((seed & 0xffffffffL) / 65536 % 6);
  }

  private static void fractionsAndLots() {
    sentence("FRACTIONS are told in lowest terms, above and below (0 by 1).");
    chance("la1", 0, 8, 0, 1);
    chance("", 0, 8, 1, 1);
    chance("la1", 1, 0, 0, 1);
    chance("la1", 1, 1, 1, 16);
    chance("la1", 1, 2, 1, 8);
    chance("la1", 1, 8, 1, 2);
    chance("la1", 1, 12, 3, 4);
    chance("la1", 1, 15, 15, 16);
    chance("la1", 1, 16, 1, 1);
    chance("la8", 8, 0, 0, 1);
    chance("la8", 8, 8, 1, 256);
    chance("la8", 8, 1, 1, 4294967296L);
    chance("la8", 8, 15, 2562890625L, 4294967296L);
    chance("la8", 8, 16, 1, 1);
    chance("la9", 8, 15, 0, 1);

    sentence("LOTS of m: SEED becomes 1103515245 SEED and 12345, as ints that wrap; its upper 16 bits as a number from 0"
        + " on, modulo m.");
    for (int seed : new int[] {0, 1, 2, 3, 7, -1, -2, MOST, LEAST, LEAST + 1, 1 << 16, 1 << 30, 123456789}) {
      due("the lot by SEED " + seed, drawn(seed), 1 << lot(nextSeed(seed)));
    }
    int seed = -5;
    int[] many = new int[6];
    for (int i = 0; i < 6; i++) {
      seed = nextSeed(seed);
      many[lot(seed)]++;
    }
    for (int mark = 0; mark < 6; mark++) {
      for (int least = 1; least <= 7; least++) {
        int got = cut("l" + (char) ('a' + mark) + least, "0").loads(-5, 6, 0, 0);
        due("six lots by SEED -5: " + least + " of MARK " + mark, got, many[mark] >= least ? 1 : 0);
      }
    }
  }

  private static void sheetTerms() {
    sentence("SHEETS 0 .. 3 are LOST (at first) or a row of a FORM: 0 bytes, 1 shorts, 2 ints, of 0 to 60 items (0 at"
        + " first).");
    for (int s = 0; s < 4; s++) {
      due("LOST at first: lose(" + s + ")", new BowingBridges().lose(s), NULL);
    }
    due("no fifth: lose(4)", new BowingBridges().lose(4), BAD);
    int[][] ends = {{-128, 127}, {-32768, 32767}, {LEAST, MOST}};
    for (int form = 0; form < 3; form++) {
      BowingBridges x = new BowingBridges();
      due("no items", x.sheet(3, form, 0), 0);
      due("there is none", x.lay(3, form, 0, 1), INDEX);
      due("60 items", x.sheet(3, form, 60), 60);
      for (int i = 0; i < 60; i++) {
        due("item " + i + " at first", x.get(3, form, i), 0);
      }
      due("the last", x.lay(3, form, 59, ends[form][0]), 1);
      due("its least", x.get(3, form, 59), ends[form][0]);
      x.lay(3, form, 59, ends[form][1]);
      due("its most", x.get(3, form, 59), ends[form][1]);
      due("no 61st", x.lay(3, form, 60, 1), INDEX);
      due("not 61", x.sheet(3, form, 61), BAD);
    }

    sentence("FINDINGS (answers -10 less the number; they change nothing but count() 8):");
    due("0 before any", new BowingBridges().count(8), 0);
    refused(BoundariesTest::rich, "lose(3)", x -> x.lose(3), -11);

    sentence("1 NULL: the SHEET is LOST;");
    refused(BoundariesTest::rich, "lose(3)", x -> x.lose(3), NULL, 1);
    refused(BoundariesTest::rich, "read(3)", x -> x.read(3), NULL, 1);
    refused(BoundariesTest::rich, "lay(3, 0, 0, 0)", x -> x.lay(3, 0, 0, 0), NULL, 1);
    refused(BoundariesTest::rich, "get(3, 0, 0)", x -> x.get(3, 0, 0), LEAST, 1);
    refused(BoundariesTest::rich, "copy(3, 0, 3, 0, 0)", x -> x.copy(3, 0, 3, 0, 0), NULL, 1);
    refused(BoundariesTest::rich, "write(0, 3)", x -> x.write(0, 3), NULL, 1);

    sentence("2 INDEX: there is no such item;");
    refused(BoundariesTest::rich, "lay(0, 0, 3, 1)", x -> x.lay(0, 0, 3, 1), INDEX, 2);
    refused(BoundariesTest::rich, "lay(0, 0, -1, 1)", x -> x.lay(0, 0, -1, 1), INDEX, 2);
    refused(BoundariesTest::rich, "get(0, 0, 3)", x -> x.get(0, 0, 3), LEAST, 2);
    refused(BoundariesTest::rich, "get(0, 0, -1)", x -> x.get(0, 0, -1), LEAST, 2);
    refused(BoundariesTest::rich, "copy(0, 1, 0, 0, 3)", x -> x.copy(0, 1, 0, 0, 3), INDEX, 2);

    sentence("3 CAST: it has another FORM;");
    refused(BoundariesTest::rich, "lay(0, 1, 0, 1)", x -> x.lay(0, 1, 0, 1), CAST, 3);
    refused(BoundariesTest::rich, "get(2, 1, 0)", x -> x.get(2, 1, 0), LEAST, 3);

    sentence("4 STORE: unlike FORMS;");
    refused(BoundariesTest::rich, "copy(0, 0, 2, 0, 1)", x -> x.copy(0, 0, 2, 0, 1), STORE, 4);
    refused(BoundariesTest::rich, "copy of none", x -> x.copy(0, 0, 1, 0, 0), STORE, 4);

    sentence("5 SIZE: below 0.");
    refused(BoundariesTest::rich, "sheet(3, 0, -1)", x -> {
      x.lose(3);
      return x.sheet(3, 0, -1);
    }, SIZE, 5);
  }

  // ---- 2: where and when

  private static void whereAndWhen() {
    sentence("Whether a BRIDGE LIFTS for a BOAT.");
    due("it does", cut("la1", "a9").lifts(0, 0), 1);
    due("it does not", cut("la1", "b9").lifts(0, 0), 0);
    due("one that only slips", cut("la1", "a0;b0").lifts(0, 1), 0);

    sentence("Behind a STEP: at which BRIDGE a BOAT is (how many there are: THROUGH; NONE: it has not started).");
    BowingBridges x = cut(EIGHT_BRIDGES, "a9");
    due("at(8, 0)", x.at(8, 0), NONE);
    due("at(9, 0)", x.at(9, 0), 1);
    due("at(15, 0)", x.at(15, 0), 7);
    due("at(16, 0)", x.at(16, 0), 8);
    due("at(99, 0)", x.at(99, 0), 8);
    due("one of one", cut("la1", "a0").at(0, 0), 1);
    due("no BRIDGES: not started", cut("", "1").at(0, 0), NONE);
    due("no BRIDGES: THROUGH", cut("", "1").at(1, 0), 0);

    sentence("PASSES of a BOAT at a BRIDGE: the STEP in which it goes on; NONE;");
    due("at the first", x.passes(0, 0, 0), 9);
    due("at the last", x.passes(7, 0, 0), 16);
    due("never", cut("la1", "0").passes(0, 0, 0), NONE);
    due("never comes there", cut("la1;na1", "0").passes(1, 0, 0), NONE);
    due("in STEP 0", cut("na1", "0").passes(0, 0, 0), 0);

    sentence("SLIPS: whether it does so behind another one.");
    x = cut("na1;na1", "0;0");
    due("the first does not", x.passes(0, 0, 1), 0);
    due("the second does", x.passes(0, 1, 1), 1);
    due("at the second BRIDGE too", x.passes(1, 1, 1), 1);
    due("one that does not go on does not", cut("la1", "0").passes(0, 0, 1), 0);
    x = cut("na1", "0;0;0;0");
    due("two slip at one BRIDGE: the first", x.passes(0, 1, 1), 1);
    due("two slip at one BRIDGE: the second", x.passes(0, 3, 1), 1);
    x = cut("na1", "0;0");
    x.undo(1);
    x.type(1, '1');
    due("none slips when the other one starts later", x.passes(0, 1, 1), 0);
    x = cut("na1;lb1;na1", "0;b1");
    due("ahead alone", x.passes(0, 0, 1), 0);
    due("slips where the other one is LIFTED for", x.passes(1, 0, 1), 1);
    due("not behind that any more", x.passes(2, 0, 1), 0);
    due("now the other one slips", x.passes(2, 1, 1), 1);

    sentence("WAITS of a BOAT: in how many STEPS it is at a BRIDGE and does not go on.");
    due("never on, from STEP 0", cut("la1", "0").waits(0), 100);
    due("never on, from STEP 9", cut("la1", "9").waits(0), 91);
    due("never on, from the second BRIDGE", cut("na1;la1", "0").waits(0), 99);
    due("it goes on at once", cut(EIGHT_BRIDGES, "a9").waits(0), 0);
    due("for one STEP", cut("na1", "0;0;0").waits(2), 1);
    due("until another one comes", cut("la1", "0;a9").waits(0), 9);
    due("no BRIDGES", cut("", "0").waits(0), 0);

    sentence("THROUGH behind a STEP, as bits.");
    x = cut("", "0;1;2;3;4;5;6;7");
    for (int step = 0; step < 9; step++) {
      due("through(" + step + ")", x.through(step), Math.min((2 << step) - 1, 255));
    }
    due("no BOATS", cut("la1", "").through(99), 0);
    due("none comes THROUGH", cut("la1", "0;0").through(99), 0);

    sentence("FIRST: the first STEP in which a BOAT WAITS; the least that does; NONE.");
    first("", "", NONE, NONE);
    first("", "0;0;0", NONE, NONE);
    first("la1", "", NONE, NONE);
    first("la1", "a0", NONE, NONE);
    first("la1", "0", 0, 0);
    first("la1", "9", 9, 0);
    first("na1;na1;na1;na1;na1;na1;na1;la1", "9", 16, 0);
    first("na1", "0;0;0;0", 0, 2);
    first("la1", "5;4;3;3", 3, 2);
  }

  private static void first(String bridges, String boats, int step, int which) {
    BowingBridges x = cut(bridges, boats);
    due("first(0) of " + bridges + " " + boats, x.first(0), step);
    due("first(1) of " + bridges + " " + boats, x.first(1), which);
  }

  // ---- 3: plans

  private static void cargo(BowingBridges x, int boat, int many, int one, int two) {
    due("cargo(" + boat + ", NONE)", x.cargo(boat, NONE), many);
    due("cargo(" + boat + ", 0)", x.cargo(boat, 0), one);
    due("cargo(" + boat + ", 1)", x.cargo(boat, 1), two);
  }

  private static void plans() {
    sentence("CARGO of a BOAT: the fewest MARKS more (0 to 2;");
    cargo(cut("la1", "a0"), 0, 0, NONE, NONE);
    cargo(cut("la2", "a0"), 0, 1, 0, NONE);
    cargo(cut("la3", "a0"), 0, 2, 0, 0);
    cargo(cut("la4", "a0"), 0, NONE, NONE, NONE);
    cargo(cut("", "0"), 0, 0, NONE, NONE);
    cargo(cut("lf2", "0"), 0, 2, 5, 5);

    everyRow();

    sentence("no SHAMS;");
    cargo(cut("nf1;la1", "0"), 0, 1, 0, NONE);
    cargo(shammed("nf1;la1", "0", 8, 0, 0), 0, 1, 0, NONE);
    cargo(shammed("la2", "0", 1, 0, 0), 0, 1, 0, NONE);

    sentence("whatever room there is for them)");
    cargo(cut("la7", "aaaaaa0"), 0, 1, 0, NONE);
    cargo(cut("la8", "aaaaaa0"), 0, 2, 0, 0);
    cargo(cut("la9", "aaaaaa0"), 0, NONE, NONE, NONE);
    cargo(cut("lf2", EIGHT_BOATS), 7, 1, 5, NONE);

    sentence("by which it is THROUGH behind STEP 99");
    cargo(cut("la1", "a0;0"), 1, 0, NONE, NONE);
    cargo(cut("la1;lb1", "0"), 0, 2, 0, 1);
    cargo(cut("la1;lb1;lc1", "0"), 0, NONE, NONE, NONE);

    sentence("of like ones the least row (none less than the one ahead): how many; the i-th; NONE.");
    cargo(cut("lf1;la1", "0"), 0, 2, 0, 5);
    cargo(cut("mb3", "b0"), 0, 2, 0, 5);
    cargo(cut("mb2", "b0"), 0, 1, 3, NONE);
    cargo(cut("mf4", "0"), 0, 2, 5, 5);
    cargo(cut("mf3", "0"), 0, 2, 2, 5);
    cargo(cut("na1", "a0"), 0, NONE, NONE, NONE);

    sentence("SAIL of a BOAT: the START (0 to 9), in place of its own, by which all BOATS WAIT least together, of like"
        + " ones the least: which; how much.");
    sail("la1", "0", 0, 9, 91);
    sail("la1", "9", 0, 9, 91);
    sail("la1", "a9", 0, 0, 0);
    sail("", "9", 0, 0, 0);
    sail("la1", "a0;9", 0, 9, 0);
    sail("la1", "9;a0", 1, 9, 0);
    sail("la1", "0;a9", 1, 0, 0);
    sail("na1", "0;0;0", 2, 1, 0);
    sail("la1", "0;0", 0, 9, 191);

    sentence("AWAY: the BRIDGE that had better not be (all others LIFT as they do), so that most BOATS are THROUGH behind"
        + " STEP 99");
    away(cut("la1", "0;0;0;0;0;0;0;0"), 0, 8);
    away(cut("na1;lb1;na1", "0"), 1, 1);
    away(cut(EIGHT_BRIDGES.substring(0, 28) + "lb1", "a0"), 7, 1);
    away(shammed("nb1;la1", "0", 1, 0, 0), 1, 1);
    away(shammed("lb1;na1;la1", "0", 1, 0, 0), 0, 1);
    away(cut("la1;lb1", "0"), 0, 0);

    sentence("of like ones by which all WAIT least, of like ones the least: which; how many are THROUGH;");
    away(cut("la1;nf1", "0;a5"), 0, 2);
    away(cut("nf1;la1", "0;a5"), 1, 2);
    away(cut("nf1;nf1;nf1", "0;0"), 0, 2);
    away(cut("la1;lb1", ""), 0, 0);

    sentence("NONE: there are no BRIDGES.");
    away(cut("", "0;0"), NONE, NONE);
    away(cut("", ""), NONE, NONE);
    away(cut("la", "0"), NONE, NONE);
  }

  private static void everyRow() {
    for (char one = 'a'; one <= 'f'; one++) {
      cargo(cut("l" + one + "1", "0"), 0, 1, one - 'a', NONE);
      cargo(cut("l" + one + "2", "0"), 0, 2, one - 'a', one - 'a');
      for (char two = (char) (one + 1); two <= 'f'; two++) {
        cargo(cut("l" + one + "1;l" + two + "1", "0"), 0, 2, one - 'a', two - 'a');
        cargo(cut("l" + two + "1;l" + one + "1", "0"), 0, 2, one - 'a', two - 'a');
      }
    }
  }

  private static void sail(String bridges, String boats, int boat, int which, int much) {
    BowingBridges x = cut(bridges, boats);
    due("sail(" + boat + ", 0) of " + bridges + " " + boats, x.sail(boat, 0), which);
    due("sail(" + boat + ", 1) of " + bridges + " " + boats, x.sail(boat, 1), much);
  }

  private static void away(BowingBridges x, int which, int many) {
    due("away(0)", x.away(0), which);
    due("away(1)", x.away(1), many);
  }

  // ---- 4: seen, chance, loads

  private static BowingBridges seen(BowingBridges x, int step, int boat, int bridge) {
    x.seen(step, boat, bridge);
    return x;
  }

  private static void whatWasSeen() {
    sentence("SEEN, 8 at most:");
    BowingBridges x = cut("la1", "a0");
    for (int i = 1; i <= 8; i++) {
      due("seen(0, 0, 1)", x.seen(0, 0, 1), i);
    }
    due("a ninth", x.seen(0, 0, 0), FULL);
    due("which is not there", x.liked(0, 0), 1);
    x = cut("la1", "a0");
    for (int i = 1; i <= 7; i++) {
      x.seen(0, 0, 1);
    }
    due("an eighth that does not fit", x.seen(0, 0, 0), 8);
    due("is there", x.liked(0, 0), 0);

    sentence("behind a STEP a BOAT (0 to 7) was at a BRIDGE (0 to 8;");
    x = cut(EIGHT_BRIDGES, "a0;a0;a0;a0;a0;a0;a0;a9");
    due("BOAT 7 THROUGH behind STEP 99", x.seen(99, 7, 8), 1);
    due("it was", x.liked(7, 0), 1);
    due("at BRIDGE 1 behind STEP 9", x.seen(9, 7, 1), 2);
    due("it was", x.liked(7, 0), 1);
    due("BOAT 0 at BRIDGE 1 behind STEP 0", x.seen(0, 0, 1), 3);
    due("it was", x.liked(7, 0), 1);
    due("at BRIDGE 0 behind STEP 0", x.seen(0, 0, 0), 4);
    due("it was not", x.liked(7, 0), 0);

    sentence("one that there is not, or has not started: never).");
    due("no such BOAT: LIKED", seen(cut("la1", "a0"), 99, 1, 0).liked(0, 0), 0);
    due("no such BOAT: HOW", seen(cut("la1", "a0"), 99, 1, 0).liked(0, 1), 0);
    due("no such BOAT: UNDER", seen(cut("la1", "a0"), 99, 1, 0).under(0), 0);
    due("no such BRIDGE", seen(cut("la1", "a0"), 99, 0, 2).liked(0, 0), 0);
    due("BRIDGE 8 of one", seen(cut("la1", "a0"), 99, 0, 8).under(0), 0);
    due("not started", seen(cut("la1", "9"), 8, 0, 0).liked(0, 0), 0);
    due("started", seen(cut("la1", "9"), 9, 0, 0).liked(0, 0), 63);
    due("not started, no BRIDGES", seen(cut("", "9"), 8, 0, 0).under(0), 0);
    due("started, no BRIDGES", seen(cut("", "9"), 9, 0, 0).under(0), 127);
    x = seen(cut("la1", "a0"), 0, 1, 1);
    type(x, 1, ";0");
    due("a BOAT that comes later", x.liked(0, 0), 1);

    sentence("LIKED of a BRIDGE: MARKS (0 to 5), in place of its own, by which all that was SEEN comes out so, as bits.");
    due("none SEEN", cut("la1", "0").liked(0, 0), 63);
    due("it went on", seen(cut("lb1", "af0"), 0, 0, 1).liked(0, 0), 1 + 32);
    due("it did not", seen(cut("lb1", "af0"), 0, 0, 0).liked(0, 0), 2 + 4 + 8 + 16);
    due("all MARKS", seen(cut("lb1", "abcdef0"), 0, 0, 1).liked(0, 0), 63);
    due("no MARK", seen(cut("lb1", "0"), 0, 0, 1).liked(0, 0), 0);
    due("at one that weighs", seen(cut("ma1", "bf0"), 0, 0, 1).liked(0, 0), 2 + 32);
    due("its own MARK stands", seen(cut("lb1", "af0"), 0, 0, 1).bridge(0, 1), 1);
    due("none SEEN, no BOATS", cut("la1", "").liked(0, 0), 63);

    sentence("HOW of a BRIDGE: how MANY (1 to 9) likewise, as bits.");
    due("none SEEN", cut("la5", "0").liked(0, 1), 1022);
    due("it went on with 1", seen(cut("la5", "a0"), 0, 0, 1).liked(0, 1), 2);
    due("it did not with 1", seen(cut("la5", "a0"), 0, 0, 0).liked(0, 1), 1020);
    due("it went on with 8", seen(shammed("la5", "aaaaaa0", 2, 0, 0), 0, 0, 1).liked(0, 1), 510);
    due("it did not with 8", seen(shammed("la5", "aaaaaa0", 2, 0, 0), 0, 0, 0).liked(0, 1), 512);
    due("it went on with 9", seen(shammed("la5", "aaaaaa0", 3, 0, 0), 0, 0, 1).liked(0, 1), 1022);
    due("it did not with 9", seen(shammed("la5", "aaaaaa0", 3, 0, 0), 0, 0, 0).liked(0, 1), 0);
    due("it went on with worth 26", seen(cut("mf1", "bffff0"), 0, 0, 1).liked(0, 1), 510);
    due("it went on with worth 27", seen(cut("mf1", "cffff0"), 0, 0, 1).liked(0, 1), 1022);

    sentence("UNDER of a BOAT: one MARK more (0 to 5; 6: none) likewise, as bits.");
    due("none SEEN", cut("la1", "0").under(0), 127);
    due("it went on by its first MARK", seen(cut("la1", "0"), 0, 0, 1).under(0), 1);
    due("it went on by its last MARK", seen(cut("lf1", "0"), 0, 0, 1).under(0), 32);
    due("it did not", seen(cut("lf1", "0"), 0, 0, 0).under(0), 127 - 32);
    due("none is enough", seen(cut("lf1", "f0"), 0, 0, 1).under(0), 127);
    due("none, and no other", seen(cut("ma2", "a0"), 0, 0, 0).under(0), 1 + 2 + 4 + 8 + 64);
    due("a seventh MARK", seen(cut("la7", "aaaaaa0"), 0, 0, 1).under(0), 1);
    due("two would be needed", seen(cut("la2", "0"), 0, 0, 1).under(0), 0);
    due("its MARKS stand", seen(cut("la1", "0"), 0, 0, 1).boat(0, 0), 0);
    asking();
  }

  private static void asking() {
    sentence("ASK of a BRIDGE, behind a STEP: the BOAT of which the greatest number of MARKS that it may have LIKED so by"
        + " which it is at the same place is least");
    // Boat 0 has not started; boat 1 goes on by b; boat 2 by a, and by b, slipping behind boat 1.
    BowingBridges x = cut("la1", "5;b2;a0");
    due("6, 5 and 4 at the same place", x.ask(0, 4), 2);
    due("6, 6 and 5 behind STEP 0", x.ask(0, 0), 2);
    x.seen(4, 2, 0);
    due("a and b are not LIKED: 4 of each", x.ask(0, 4), 0);
    due("the least number, not the last BOAT", cut("la1", "abc0;5").ask(0, 4), 0);
    due("behind STEP 99", cut("la1", "0;abc9").ask(0, 99), 0);
    // By a, b or c boat 1 goes on in STEP 1, and boat 0 with it; by d boat 0 goes on at once, and boat 1 never.
    x = cut("la1", "d0;abc1");
    due("behind STEP 0", x.ask(0, 0), 0);
    due("behind STEP 1", x.ask(0, 1), 1);

    sentence("of like ones the least; NONE: there are none.");
    due("like ones", cut("la1", "0;0;0").ask(0, 0), 0);
    due("the least of the like ones", cut("la1", "9;a0;b0").ask(0, 0), 1);
    due("no MARK is LIKED", seen(cut("la1", "9;a0"), 0, 1, 8).ask(0, 0), 0);
    due("no BOATS", cut("la1", "").ask(0, 0), NONE);
    due("a FAULT in the BOATS", cut("la1", "0;").ask(0, 0), NONE);
  }

  private static void chanceAndLoads() {
    sentence("BELIEVED: each SHAM is at even BRIDGES by c sixteenths (0 to 16), by itself (else it is as if it was not):"
        + " the chance that a BOAT is THROUGH behind a STEP: a FRACTION.");
    chance("la1", 2, 1, 31, 256);
    chance("la2", 2, 1, 1, 256);
    chance("la1", 8, 1, 4294967296L - 2562890625L, 4294967296L);
    chance("nf1;la1", 8, 16, 0, 1);
    chance("na1", 1, 1, 15, 16);
    chance("na1", 1, 16, 0, 1);
    chance("la1;nf1;la1", 1, 4, 1, 4);
    chance("nf1;nf1;la1", 1, 4, 1, 4);
    chance("nf1;nf1;nf1;nf1;la1", 1, 4, 1, 4);
    chance("nf1;nf1;nf1;nf1;nf1;nf1;la1", 1, 4, 1, 4);
    BowingBridges x = shammed("la1", "3", 1, 0, 0);
    due("behind the STEP ahead", x.believed(4, 0, 2, 0), 0);
    due("behind the STEP ahead, below", x.believed(4, 0, 2, 1), 1);
    due("behind the STEP itself", x.believed(4, 0, 3, 0), 1);
    due("behind the STEP itself, below", x.believed(4, 0, 3, 1), 4);
    limits(BoundariesTest::rich, "believed(c, 0, 0, 0)", 0, 16, (y, c) -> y.believed(c, 0, 0, 0), BAD_LONG);
    limits(BoundariesTest::full, "believed(c, 7, 99, 1)", 0, 16, (y, c) -> y.believed(c, 7, 99, 1), BAD_LONG);

    believedOfEach();
    believedAnew();

    sentence("LOADS of a BOAT by a SEED: n LOTS of 6 (0 to 6) are its MARKS, in place of those that it carries:");
    due("no LOTS: none of its own", cut("na1", "aaaaaa0").loads(MOST, 0, 0, 0), 1);
    due("six LOTS: none of its own", cut("na7", "aaaaaa0").loads(LEAST, 6, 0, 0), 1);
    due("its SHAMS stand", shammed("na1", "0", 1, 0, 0).loads(0, 0, 0, 0), 0);
    x = cut("na1", "0");
    due("one LOT, of MARK 0", x.loads(0, 1, 0, 0), 0);
    due("no LOTS behind that", x.loads(0, 0, 0, 0), 1);
    due("others carry theirs", cut("la1", "0;a3").loads(1, 0, 0, 1), 3);
    x = cut("na1", "a0");
    x.loads(0, 0, 0, 0);
    due("its own stand behind it", x.boat(0, 0), 1);
    due("it waits as it did", x.waits(0), 100);
    limits(BoundariesTest::rich, "loads(1, n, 0, 0)", 0, 6, (y, n) -> y.loads(1, n, 0, 0));

    sentence("at which BRIDGE it is behind STEP 99; how much it WAITS.");
    due("at the first", cut("la1", "a9").loads(0, 0, 0, 0), 0);
    due("it WAITS to the end", cut("la1", "a9").loads(0, 0, 0, 1), 91);
    due("THROUGH", cut(EIGHT_BRIDGES.replace('l', 'n'), "a9").loads(0, 0, 0, 0), 8);
    due("it WAITS not", cut(EIGHT_BRIDGES.replace('l', 'n'), "a9").loads(0, 0, 0, 1), 0);
    due("no BRIDGES", cut("", "a9").loads(0, 6, 0, 0), 0);
    due("no BRIDGES: it WAITS not", cut("", "a9").loads(0, 6, 0, 1), 0);
  }

  /** Each boat is through in another step, by its own sham; boat 0 by none. */
  private static void believedOfEach() {
    BowingBridges x = cut("la1", "a0;1;2;3;4;5;6;9");
    for (int boat = 1; boat < 8; boat++) {
      x.sham(boat, 0);
    }
    for (int boat = 0; boat < 8; boat++) {
      int start = x.boat(boat, 6);
      String call = "believed(8, " + boat + ", step, what)";
      due(call + " ahead", start == 0 ? 0 : x.believed(8, boat, start - 1, 0), 0);
      due(call + " above", x.believed(8, boat, start, 0), 1);
      due(call + " below", x.believed(8, boat, start, 1), boat == 0 ? 1 : 2);
    }
  }

  /** What was worked out is worked out anew behind each change; SHAMS are as they were behind it. */
  private static void believedAnew() {
    BowingBridges x = cut("la1;nf1;lb1", "0;0");
    due("no SHAMS", x.believed(8, 1, 9, 1), 1);
    x.sham(1, 0);
    due("one of two", x.believed(8, 1, 9, 1), 1);
    x.sham(1, 1);
    due("two of two", x.believed(8, 1, 9, 1), 4);
    due("both stand: cargo(1, NONE)", x.cargo(1, NONE), 0);
    x.undo(1);
    x.type(1, '9');
    due("both stand: lifts(0, 1)", x.lifts(0, 1), 1);
    due("both stand: lifts(2, 1)", x.lifts(2, 1), 1);
    due("behind a new START", x.believed(8, 1, 10, 0), 0);
    due("behind a new START, STEP 11", x.believed(8, 1, 11, 0), 1);
    x.back();
    due("behind back()", x.believed(8, 1, 11, 0), 0);
    lay(x, 0, 0, 1, 1);
    x.read(0);
    due("behind read()", x.believed(8, 1, 11, 1), 4);
    x.wipe(0);
    due("behind wipe()", x.believed(8, 1, 9, 1), 1);
    type(x, 0, "lb1");
    due("behind type()", x.believed(8, 1, 9, 1), 2);
  }

  // ---- refusals

  private static BowingBridges empty() {
    return new BowingBridges();
  }

  private static void refusals() {
    sentence("Refusals, the first that fits, in the order told at each act: BAD -2 (a number not as told, no such thing)"
        + ", NULL, NOT -3 (as told), FULL -4, other FINDINGS.");
    refused(BoundariesTest::full, "BAD ahead of FULL: type(2, 0)", x -> x.type(2, 0), BAD);
    refused(BoundariesTest::full, "BAD ahead of FULL: type(0, 256)", x -> x.type(0, 256), BAD);
    refused(BoundariesTest::full, "BAD ahead of FULL: sham(8, 0)", x -> x.sham(8, 0), BAD);
    refused(BoundariesTest::full, "BAD ahead of FULL: sham(0, 6)", x -> x.sham(0, 6), BAD);
    refused(BoundariesTest::full, "BAD ahead of FULL: seen(100, 0, 0)", x -> x.seen(100, 0, 0), BAD);
    refused(BoundariesTest::full, "BAD ahead of FULL: seen(0, 8, 0)", x -> x.seen(0, 8, 0), BAD);
    refused(BoundariesTest::full, "BAD ahead of FULL: seen(0, 0, 9)", x -> x.seen(0, 0, 9), BAD);
    refused(BoundariesTest::empty, "BAD ahead of NOT: undo(2)", x -> x.undo(2), BAD);
    refused(BoundariesTest::empty, "BAD ahead of NULL: lay(0, 3, 0, 0)", x -> x.lay(0, 3, 0, 0), BAD);
    refused(BoundariesTest::empty, "BAD ahead of NULL: get(0, 3, 0)", x -> x.get(0, 3, 0), LEAST, 0);
    refused(BoundariesTest::empty, "BAD ahead of NULL: copy(0, 0, 4, 0, 0)", x -> x.copy(0, 0, 4, 0, 0), BAD);
    refused(BoundariesTest::empty, "BAD ahead of NULL: copy(4, 0, 0, 0, 0)", x -> x.copy(4, 0, 0, 0, 0), BAD);
    refused(BoundariesTest::empty, "BAD ahead of NULL: write(100, 0)", x -> x.write(100, 0), BAD);
    refused(BoundariesTest::rich, "BAD ahead of INDEX: lay(0, 3, 9, 0)", x -> x.lay(0, 3, 9, 0), BAD);
    refused(BoundariesTest::rich, "BAD ahead of INDEX: copy(0, 9, -1, 0, 0)", x -> x.copy(0, 9, -1, 0, 0), BAD);
    refused(BoundariesTest::rich, "BAD ahead of SIZE: sheet(0, 3, -1)", x -> x.sheet(0, 3, -1), BAD);
    refused(BoundariesTest::rich, "BAD ahead of SIZE: sheet(4, 0, -1)", x -> x.sheet(4, 0, -1), BAD);
    refused(BoundariesTest::rich, "NULL ahead of CAST: lay(3, 1, 9, 0)", x -> x.lay(3, 1, 9, 0), NULL);
    refused(BoundariesTest::rich, "NULL ahead of CAST: get(3, 1, 9)", x -> x.get(3, 1, 9), LEAST, 1);
    refused(BoundariesTest::rich, "NULL ahead of STORE: copy(3, 9, 2, 0, 0)", x -> x.copy(3, 9, 2, 0, 0), NULL);
    refused(BoundariesTest::rich, "NULL ahead of STORE: copy(2, 9, 3, 0, 0)", x -> x.copy(2, 9, 3, 0, 0), NULL);
    refused(BoundariesTest::rich, "CAST ahead of INDEX: lay(0, 1, 9, 0)", x -> x.lay(0, 1, 9, 0), CAST);
    refused(BoundariesTest::rich, "CAST ahead of INDEX: get(0, 1, -1)", x -> x.get(0, 1, -1), LEAST, 3);
    refused(BoundariesTest::rich, "STORE ahead of INDEX: copy(0, 9, 2, 9, 9)", x -> x.copy(0, 9, 2, 9, 9), STORE);

    sentence("They change nothing (FINDINGS but count() 8).");
    refused(BoundariesTest::full, "type(0, 97)", x -> x.type(0, 97), FULL);
    refused(BoundariesTest::full, "type(1, 97)", x -> x.type(1, 97), FULL);
    refused(BoundariesTest::full, "sham(0, 0)", x -> x.sham(0, 0), FULL);
    refused(BoundariesTest::full, "seen(0, 0, 0)", x -> x.seen(0, 0, 0), FULL);
    refused(BoundariesTest::empty, "undo(0)", x -> x.undo(0), NOT);
    refused(BoundariesTest::empty, "undo(1)", x -> x.undo(1), NOT);
    refused(BoundariesTest::empty, "back()", x -> x.back(), NOT);
    refused(BoundariesTest::faulty, "bridge(0, 0)", x -> x.bridge(0, 0), BAD);
    refused(BoundariesTest::faulty, "boat(0, 0)", x -> x.boat(0, 0), BAD);

    sentence("Where the answer is a long, a refusal -x is the least long and x more.");
    refused(BoundariesTest::rich, "believed(17, 0, 0, 0)", x -> x.believed(17, 0, 0, 0), Long.MIN_VALUE + 2, 0);
    refused(BoundariesTest::empty, "believed(0, 0, 0, 0)", x -> x.believed(0, 0, 0, 0), Long.MIN_VALUE + 2, 0);
  }

  // ---- the promises

  private static void promises1To10() {
    sentence("No BRIDGES, no BOATS; all SHEETS are LOST.");
    BowingBridges x = new BowingBridges();
    for (int what = 0; what <= 8; what++) {
      due("count(" + what + ")", x.count(what), 0);
    }
    due("bridge(0, 0)", x.bridge(0, 0), BAD);
    due("boat(0, 0)", x.boat(0, 0), BAD);
    for (int s = 0; s < 4; s++) {
      due("read(" + s + ")", x.read(s), NULL);
    }
    full();
    due("another object is another", new BowingBridges().digest(), x.digest());

    sentence("An object is used for at most 512 calls after it has been made");
    x = new BowingBridges();
    for (int call = 1; call < 512; call += 2) {
      due("call " + call, x.type(0, 'l'), 1);
      due("call " + (call + 1), x.undo(0), 0);
    }

    sentence("A byte (0 to 255) comes behind a text: how many. BAD; FULL.");
    limits(BoundariesTest::rich, "type(text, 97)", 0, 1, (y, text) -> y.type(text, 97));
    limits(BoundariesTest::rich, "type(0, b)", 0, 255, (y, b) -> y.type(0, b));
    limits(BoundariesTest::rich, "type(1, b)", 0, 255, (y, b) -> y.type(1, b));
    x = new BowingBridges();
    due("the first", x.type(0, 'l'), 1);
    due("the second", x.type(0, 'b'), 2);
    due("the third", x.type(0, '1'), 3);
    due("they come behind", x.bridge(0, 1), 1);
    due("the first of the other", x.type(1, '0'), 1);
    refused(BoundariesTest::full, "type(0, 0)", y -> y.type(0, 0), FULL);
    refused(BoundariesTest::full, "type(1, 255)", y -> y.type(1, 255), FULL);

    sentence("A text is empty: how many bytes it had. BAD.");
    limits(BoundariesTest::rich, "wipe(text)", 0, 1, (y, text) -> y.wipe(text));
    x = full();
    due("a full one", x.wipe(0), 31);
    due("count(0)", x.count(0), 0);
    due("count(2)", x.count(2), 0);
    due("the other stands", x.count(3), 63);
    due("an empty one", x.wipe(0), 0);
    due("the full other", x.wipe(1), 63);
    due("count(1)", x.count(1), 0);
    due("SHAMS stand", x.count(4), 8);
    due("what was SEEN stands", x.count(7), 8);
    due("one byte", x.type(0, 'l'), 1);
    due("one with a FAULT", x.wipe(0), 1);

    sentence("The last byte of a text is undone: how many are left. BAD; NOT: it is empty.");
    limits(BoundariesTest::rich, "undo(text)", 0, 1, (y, text) -> y.undo(text));
    x = full();
    due("a full one", x.undo(0), 30);
    due("the other full one", x.undo(1), 62);
    due("there is room again", x.type(0, '2'), 31);
    due("for one byte", x.type(0, ';'), FULL);
    due("in place of the last", x.bridge(7, 2), 2);
    x = cut("l", "0");
    due("the only one", x.undo(0), 0);
    due("it is empty", x.undo(0), NOT);
    due("the other", x.undo(1), 0);
    due("it is empty too", x.undo(1), NOT);

    sentence("The FAULT of a text; NONE. BAD.");
    limits(BoundariesTest::rich, "fault(text)", 0, 1, (y, text) -> y.fault(text));
    due("of BRIDGES", cut("la1;", "a").fault(0), 4);
    due("of BOATS", cut("la1;", "a").fault(1), 1);
    due("NONE", cut("la1", "a").fault(0), NONE);

    sentence("Its kind (what = 0: 0 l, 1 n, 2 m), MARK (1), how MANY (2) of a BRIDGE. BAD.");
    limits(BoundariesTest::rich, "bridge(bridge, 0)", 0, 4, (y, bridge) -> y.bridge(bridge, 0));
    limits(BoundariesTest::full, "bridge(bridge, 2)", 0, 7, (y, bridge) -> y.bridge(bridge, 2));
    limits(BoundariesTest::rich, "bridge(0, what)", 0, 2, (y, what) -> y.bridge(0, what));
    int[] parts = {0, 5, 9, 1, 0, 1, 2, 4, 3};
    x = cut("lf9;na1;me3", "");
    for (int i = 0; i < 9; i++) {
      due("bridge(" + i / 3 + ", " + i % 3 + ")", x.bridge(i / 3, i % 3), parts[i]);
    }

    sentence("How many of a MARK (what 0 to 5) it carries, START (6) of a BOAT. BAD.");
    limits(BoundariesTest::rich, "boat(boat, 0)", 0, 7, (y, boat) -> y.boat(boat, 0));
    limits(() -> cut("", "0;0;0"), "boat(boat, 6)", 0, 2, (y, boat) -> y.boat(boat, 6));
    limits(BoundariesTest::rich, "boat(0, what)", 0, 6, (y, what) -> y.boat(0, what));
    x = cut("", "ffffff9;0");
    due("boat(0, 5)", x.boat(0, 5), 6);
    due("boat(0, 6)", x.boat(0, 6), 9);
    due("boat(1, 5)", x.boat(1, 5), 0);
    due("boat(1, 6)", x.boat(1, 6), 0);

    sentence("A SHAM more: how many. BAD; FULL.");
    limits(BoundariesTest::rich, "sham(boat, 0)", 0, 7, (y, boat) -> y.sham(boat, 0));
    limits(BoundariesTest::empty, "sham(boat, 5)", 0, 7, (y, boat) -> y.sham(boat, 5));
    limits(BoundariesTest::rich, "sham(0, mark)", 0, 5, (y, mark) -> y.sham(0, mark));
    x = new BowingBridges();
    for (int i = 1; i <= 8; i++) {
      due("sham(7, 5)", x.sham(7, 5), i);
    }
    refused(BoundariesTest::full, "sham(7, 5)", y -> y.sham(7, 5), FULL);

    sentence("The last SHAM is undone: how many are left. NOT: there is none.");
    x = full();
    for (int i = 7; i >= 0; i--) {
      due("back()", x.back(), i);
    }
    due("back()", x.back(), NOT);
    due("count(4)", x.count(4), 0);
    x = shammed("la1;na9;lb1", "0", 1, 0, 0);
    x.sham(0, 1);
    due("the last", x.back(), 1);
    due("the first stands", x.lifts(0, 0), 1);
    due("the last does not", x.lifts(2, 0), 0);
    due("there is room for it again", x.sham(0, 1), 2);
    reading();
  }

  private static void reading() {
    sentence("SHAMS from a SHEET: its items, two for each, as many as are whole, as long as each may be: how many. BAD;"
        + " NULL.");
    limits(BoundariesTest::rich, "read(s)", 0, 3, (y, s) -> y.read(s));
    refused(BoundariesTest::rich, "read(3)", y -> y.read(3), NULL);
    due("no items", read(0), 0);
    due("one item", read(0, 0), 0);
    due("two items", read(0, 0, 0), 1);
    due("three items", read(0, 0, 0, 0), 1);
    due("sixteen items", read(0, new int[16]), 8);
    due("eighteen items", read(0, new int[18]), 8);
    due("sixty items", read(0, new int[60]), 8);
    due("the last that may be", read(0, 7, 5, 0, 0), 2);
    due("BOAT 8 may not", read(0, 0, 0, 8, 0, 0, 0), 1);
    due("BOAT -1 may not", read(0, 0, 0, -1, 0, 0, 0), 1);
    due("MARK 6 may not", read(0, 0, 0, 0, 6, 0, 0), 1);
    due("MARK -1 may not", read(0, 0, 0, 0, -1, 0, 0), 1);
    due("not the first", read(0, 8, 0, 0, 0), 0);
    due("with 7 there is room for one", read(7, 1, 1, 2, 2), 1);
    due("with 8 there is none", read(8, 1, 1, 2, 2), 0);
    BowingBridges x = shammed("la1;na9;lb1;na9;lf1", "0", 1, 0, 0);
    for (int form = 0; form < 3; form++) {
      lay(x, form, form, 0, 1, 0, 5, 0);
      due("of FORM " + form, x.read(form), 2);
      due("those that there were stand", x.count(4), 3);
      due("they are all there", x.lifts(0, 0) + x.lifts(2, 0) + x.lifts(4, 0), 3);
      due("the last is undone", x.back(), 2);
      due("it was the last of the SHEET", x.lifts(4, 0), 0);
      due("and the one ahead", x.back(), 1);
      due("it was the first of the SHEET", x.lifts(2, 0), 0);
      due("the SHEET stands", x.get(form, form, 3), 5);
    }
    x.sheet(3, 2, 2);
    x.lay(3, 2, 0, LEAST);
    due("the least int may not", x.read(3), 0);
    x.lay(3, 2, 0, 256);
    due("an int is no byte", x.read(3), 0);
    due("all that is left", x.count(4), 1);
  }

  /** What read() answers to these items when there are so many shams; behind it there are both. */
  private static int read(int before, int... items) {
    BowingBridges x = shammed("", "", before, 0, 0);
    lay(x, 0, 1, items);
    int many = x.read(0);
    due("count(4)", x.count(4), before + many);
    return many;
  }

  private static void promises11To19() {
    Supplier<BowingBridges> rich = BoundariesTest::rich;
    sentence("Whether it LIFTS: 1, 0. BAD.");
    limits(rich, "lifts(bridge, 0)", 0, 4, (x, bridge) -> x.lifts(bridge, 0));
    limits(rich, "lifts(0, boat)", 0, 7, (x, boat) -> x.lifts(0, boat));
    limits(() -> cut(EIGHT_BRIDGES, "a0"), "lifts(bridge, 0)", 0, 7, (x, bridge) -> x.lifts(bridge, 0));
    limits(() -> cut(EIGHT_BRIDGES, "a0"), "lifts(7, boat)", 0, 0, (x, boat) -> x.lifts(7, boat));
    due("1", cut("la1", "a0").lifts(0, 0), 1);
    due("0", cut("la1", "0").lifts(0, 0), 0);

    sentence("At which BRIDGE it is; NONE. BAD.");
    limits(rich, "at(99, boat)", 0, 7, (x, boat) -> x.at(99, boat));
    limits(() -> cut("la1", "a0;0"), "at(step, 1)", 0, 99, (x, step) -> x.at(step, 1));
    limits(() -> cut("la1", "a0;0"), "at(0, boat)", 0, 1, (x, boat) -> x.at(0, boat));
    due("BRIDGE 0", cut("la1", "0").at(0, 0), 0);
    due("NONE", cut("la1", "1").at(0, 0), NONE);

    sentence("PASSES (what = 0; NONE), SLIPS (1: 1, 0). BAD.");
    limits(rich, "passes(bridge, 0, 0)", 0, 4, (x, bridge) -> x.passes(bridge, 0, 0));
    limits(rich, "passes(0, boat, 1)", 0, 7, (x, boat) -> x.passes(0, boat, 1));
    limits(rich, "passes(0, 0, what)", 0, 1, (x, what) -> x.passes(0, 0, what));
    due("in STEP 0", cut("la1", "a0;0;0").passes(0, 0, 0), 0);
    due("NONE", cut("la1", "a0;0;0").passes(0, 2, 0), NONE);
    due("1", cut("la1", "a0;0;0").passes(0, 1, 1), 1);
    due("0", cut("la1", "a0;0;0").passes(0, 2, 1), 0);

    sentence("WAITS. BAD.");
    limits(rich, "waits(boat)", 0, 7, (x, boat) -> x.waits(boat));
    limits(() -> cut("la1", "0;0"), "waits(boat)", 0, 1, (x, boat) -> x.waits(boat));
    due("none", cut("la1", "a0").waits(0), 0);
    due("all", cut("la1", "0").waits(0), 100);

    sentence("THROUGH, as bits. BAD.");
    limits(BoundariesTest::empty, "through(step)", 0, 99, (x, step) -> x.through(step));
    due("all eight", full().through(99), 255);
    due("none", new BowingBridges().through(99), 0);

    sentence("FIRST: the STEP (what = 0), which (1); NONE. BAD.");
    limits(rich, "first(what)", 0, 1, (x, what) -> x.first(what));
    limits(BoundariesTest::empty, "first(what)", 0, 1, (x, what) -> x.first(what));
    first("la1", "a0;9", 9, 1);
    first("", "", NONE, NONE);

    sentence("CARGO: how many (i = NONE), the i-th (0, 1; NONE); NONE. BAD.");
    limits(rich, "cargo(boat, NONE)", 0, 7, (x, boat) -> x.cargo(boat, NONE));
    limits(rich, "cargo(0, i)", NONE, 1, (x, i) -> x.cargo(0, i));
    limits(() -> cut("la1", "0;0"), "cargo(boat, 0)", 0, 1, (x, boat) -> x.cargo(boat, 0));
    cargo(cut("ld1;lb1", "0"), 0, 2, 1, 3);
    cargo(cut("ld1;lb1", "b0"), 0, 1, 3, NONE);
    cargo(cut("ld1;lb1", "bd0"), 0, 0, NONE, NONE);
    cargo(cut("ld1;lb2", "0"), 0, NONE, NONE, NONE);

    sentence("SAIL: which (what = 0), how much (1). BAD.");
    limits(rich, "sail(boat, 0)", 0, 7, (x, boat) -> x.sail(boat, 0));
    limits(rich, "sail(0, what)", 0, 1, (x, what) -> x.sail(0, what));
    limits(() -> cut("la1", "0;0"), "sail(boat, 1)", 0, 1, (x, boat) -> x.sail(boat, 1));
    BowingBridges x = cut("la1", "0");
    due("the last START", x.sail(0, 0), 9);
    due("its own stands", x.boat(0, 6), 0);
    due("it waits as it did", x.waits(0), 100);

    sentence("AWAY: which (what = 0), how many (1); NONE. BAD.");
    limits(rich, "away(what)", 0, 1, (y, what) -> y.away(what));
    limits(BoundariesTest::empty, "away(what)", 0, 1, (y, what) -> y.away(what));
    x = full();
    due("all are like", x.away(0), 0);
    due("all are THROUGH", x.away(1), 8);
    due("all BRIDGES stand", x.count(0), 8);
  }

  private static void promises20To26() {
    Supplier<BowingBridges> rich = BoundariesTest::rich;
    sentence("SEEN more: how many. BAD; FULL.");
    limits(rich, "seen(0, boat, 0)", 0, 7, (x, boat) -> x.seen(0, boat, 0));
    limits(rich, "seen(0, 0, bridge)", 0, 8, (x, bridge) -> x.seen(0, 0, bridge));
    limits(BoundariesTest::empty, "seen(step, 7, 8)", 0, 99, (x, step) -> x.seen(step, 7, 8));
    limits(BoundariesTest::empty, "seen(99, boat, 8)", 0, 7, (x, boat) -> x.seen(99, boat, 8));
    limits(BoundariesTest::empty, "seen(99, 7, bridge)", 0, 8, (x, bridge) -> x.seen(99, 7, bridge));
    BowingBridges x = new BowingBridges();
    for (int i = 1; i <= 8; i++) {
      due("seen(99, 7, 8)", x.seen(99, 7, 8), i);
    }
    refused(BoundariesTest::full, "seen(99, 7, 8)", y -> y.seen(99, 7, 8), FULL);

    sentence("All SEEN are forgotten: how many.");
    due("eight", x.forget(), 8);
    due("none", x.forget(), 0);
    due("count(7)", x.count(7), 0);
    due("there is room again", x.seen(0, 0, 0), 1);
    due("one", x.forget(), 1);
    x = seen(cut("la1", "0"), 0, 0, 8);
    due("it never was", x.liked(0, 0), 0);
    x.forget();
    due("it is forgotten", x.liked(0, 0), 63);

    sentence("LIKED (what = 0), HOW (1; bit 1 on), as bits. BAD.");
    limits(rich, "liked(bridge, 0)", 0, 4, (y, bridge) -> y.liked(bridge, 0));
    limits(BoundariesTest::full, "liked(bridge, 1)", 0, 7, (y, bridge) -> y.liked(bridge, 1));
    limits(rich, "liked(0, what)", 0, 1, (y, what) -> y.liked(0, what));
    due("bits 0 to 5", cut("la1", "").liked(0, 0), 63);
    due("bits 1 to 9", cut("la1", "").liked(0, 1), 1022);

    sentence("UNDER, as bits. BAD.");
    limits(rich, "under(boat)", 0, 7, (y, boat) -> y.under(boat));
    limits(() -> cut("", "0;0"), "under(boat)", 0, 1, (y, boat) -> y.under(boat));
    due("bits 0 to 6", cut("", "0").under(0), 127);

    sentence("ASK; NONE. BAD: no such BRIDGE.");
    limits(rich, "ask(bridge, 0)", 0, 4, (y, bridge) -> y.ask(bridge, 0));
    limits(BoundariesTest::full, "ask(bridge, 99)", 0, 7, (y, bridge) -> y.ask(bridge, 99));
    limits(() -> cut("la1", ""), "ask(bridge, 0)", 0, 0, (y, bridge) -> y.ask(bridge, 0));
    limits(() -> cut("la1", ""), "ask(0, step)", 0, 99, (y, step) -> y.ask(0, step));
    refused(() -> cut("", "0"), "ask(0, 0) with no BRIDGES", y -> y.ask(0, 0), BAD);
    due("NONE", cut("la1", "").ask(0, 0), NONE);

    sentence("BELIEVED: above, below. BAD. (As the least long.)");
    limits(rich, "believed(16, boat, 0, 0)", 0, 7, (y, boat) -> y.believed(16, boat, 0, 0), BAD_LONG);
    limits(() -> cut("la1", "0;0"), "believed(0, boat, 0, 1)", 0, 1, (y, boat) -> y.believed(0, boat, 0, 1), BAD_LONG);
    limits(rich, "believed(16, 0, 99, what)", 0, 1, (y, what) -> y.believed(16, 0, 99, what), BAD_LONG);
    chance("la1", 1, 3, 3, 16);

    sentence("LOADS: at which BRIDGE (what = 0), how much it WAITS (1). BAD.");
    limits(rich, "loads(1, 6, boat, 0)", 0, 7, (y, boat) -> y.loads(1, 6, boat, 0));
    limits(rich, "loads(1, 6, 0, what)", 0, 1, (y, what) -> y.loads(1, 6, 0, what));
    limits(() -> cut("la1", "0;0"), "loads(1, 0, boat, 1)", 0, 1, (y, boat) -> y.loads(1, 0, boat, 1));
    due("no SEED is BAD", cut("", "0").loads(LEAST, 6, 0, 0), 0);
    due("no SEED is BAD", cut("", "0").loads(MOST, 6, 0, 0), 0);
  }

  private static void promises27To34() {
    sentence("A SHEET is a new row of a FORM with n items: n. BAD: SHEET, FORM, above 60; SIZE.");
    limits(BoundariesTest::rich, "sheet(s, 0, 0)", 0, 3, (x, s) -> x.sheet(s, 0, 0));
    limits(BoundariesTest::rich, "sheet(0, form, 0)", 0, 2, (x, form) -> x.sheet(0, form, 0));
    due("60", rich().sheet(0, 2, 60), 60);
    refused(BoundariesTest::rich, "sheet(0, 2, 61)", x -> x.sheet(0, 2, 61), BAD);
    refused(BoundariesTest::rich, "sheet(0, 2, MOST)", x -> x.sheet(0, 2, MOST), BAD);
    due("0", rich().sheet(0, 2, 0), 0);
    refused(BoundariesTest::rich, "sheet(0, 2, -1)", x -> x.sheet(0, 2, -1), SIZE);
    refused(BoundariesTest::rich, "sheet(3, 2, LEAST)", x -> x.sheet(3, 2, LEAST), SIZE);
    BowingBridges x = rich();
    due("in place of one", x.sheet(2, 0, 5), 5);
    due("its FORM is new", x.get(2, 2, 0), LEAST);
    due("its items are new", x.get(2, 0, 4), 0);
    due("others stand", x.get(0, 0, 2), 9);

    sentence("It is LOST: how many items it had. BAD; NULL.");
    limits(BoundariesTest::rich, "lose(s)", 0, 3, (y, s) -> y.lose(s));
    refused(BoundariesTest::rich, "lose(3)", y -> y.lose(3), NULL);
    x = rich();
    due("none", x.lose(1), 0);
    due("three", x.lose(0), 3);
    due("LOST", x.lose(0), NULL);
    x.sheet(0, 0, 60);
    due("sixty", x.lose(0), 60);
    x.sheet(0, 0, 60);
    due("what was lost does not come again", x.get(0, 0, 0), 0);

    laying();
    copying();
    writing();
    counting();
    digesting();
  }

  private static void laying() {
    sentence("Item i, treated as of a FORM, becomes v (the lowest bits that it has): 1. BAD; NULL; CAST; INDEX.");
    limits(BoundariesTest::rich, "lay(s, 0, 0, 1)", 0, 3, (x, s) -> x.lay(s, 0, 0, 1));
    limits(BoundariesTest::rich, "lay(0, form, 0, 1)", 0, 2, (x, form) -> x.lay(0, form, 0, 1));
    refused(BoundariesTest::rich, "lay(3, 0, 0, 1)", x -> x.lay(3, 0, 0, 1), NULL);
    refused(BoundariesTest::rich, "lay(0, 2, 0, 1)", x -> x.lay(0, 2, 0, 1), CAST);
    refused(BoundariesTest::rich, "lay(2, 0, 0, 1)", x -> x.lay(2, 0, 0, 1), CAST);
    due("the last item", rich().lay(0, 0, 2, 1), 1);
    for (int i : new int[] {3, -1, 60, LEAST, MOST}) {
      refused(BoundariesTest::rich, "lay(0, 0, " + i + ", 1)", x -> x.lay(0, 0, i, 1), INDEX);
    }
    refused(BoundariesTest::rich, "lay(1, 1, 0, 1)", x -> x.lay(1, 1, 0, 1), INDEX);
    int[][] laid = {
      {0, 127, 127}, {0, 128, -128}, {0, -128, -128}, {0, -129, 127}, {0, 255, -1}, {0, 256, 0}, {0, MOST, -1},
      {0, LEAST, 0}, {1, 32767, 32767}, {1, 32768, -32768}, {1, -32768, -32768}, {1, -32769, 32767}, {1, 65536, 0},
      {1, MOST, -1}, {1, LEAST, 0}, {2, MOST, MOST}, {2, LEAST, LEAST}, {2, -1, -1},
    };
    for (int[] row : laid) {
      BowingBridges x = new BowingBridges();
      x.sheet(0, row[0], 2);
      due("lay(0, " + row[0] + ", 1, " + row[1] + ")", x.lay(0, row[0], 1, row[1]), 1);
      due("item 1 behind lay of " + row[1] + " as of FORM " + row[0], x.get(0, row[0], 1), row[2]);
      due("item 0", x.get(0, row[0], 0), 0);
    }

    sentence("Item i of it. BAD: the least int; so are NULL, CAST, INDEX (count() 8 tells).");
    refused(BoundariesTest::rich, "get(4, 0, 0)", x -> x.get(4, 0, 0), LEAST, 0);
    refused(BoundariesTest::rich, "get(-1, 0, 0)", x -> x.get(-1, 0, 0), LEAST, 0);
    refused(BoundariesTest::rich, "get(0, 3, 0)", x -> x.get(0, 3, 0), LEAST, 0);
    refused(BoundariesTest::rich, "get(0, -1, 0)", x -> x.get(0, -1, 0), LEAST, 0);
    refused(BoundariesTest::rich, "get(3, 0, 0)", x -> x.get(3, 0, 0), LEAST, 1);
    refused(BoundariesTest::rich, "get(0, 1, 0)", x -> x.get(0, 1, 0), LEAST, 3);
    for (int i : new int[] {3, -1, 60, LEAST, MOST}) {
      refused(BoundariesTest::rich, "get(0, 0, " + i + ")", x -> x.get(0, 0, i), LEAST, 2);
    }
    refused(BoundariesTest::rich, "get(1, 1, 0)", x -> x.get(1, 1, 0), LEAST, 2);
    due("the last item", rich().get(2, 2, 4), 5);
    due("the first item", rich().get(2, 2, 0), 1);
    due("an item of the last SHEET", lastSheet().get(3, 1, 1), -3);
    BowingBridges x = new BowingBridges();
    lay(x, 0, 2, LEAST);
    due("an item that is the least int", x.get(0, 2, 0), LEAST);
    due("is no FINDING", x.count(8), 0);
  }

  private static BowingBridges lastSheet() {
    BowingBridges x = new BowingBridges();
    lay(x, 3, 1, 4, -3);
    return x;
  }

  private static void copying() {
    sentence("n items of SHEET s, from i on, come to SHEET t (perhaps s, as they were), from j on: 1.");
    BowingBridges x = new BowingBridges();
    lay(x, 0, 2, 1, 2, 3, 4, 5);
    lay(x, 1, 2, 6, 7, 8);
    due("none", x.copy(0, 0, 1, 0, 0), 1);
    due("none, from the ends on", x.copy(0, 5, 1, 3, 0), 1);
    items(x, 1, 6, 7, 8);
    due("the last to the first", x.copy(0, 4, 1, 0, 1), 1);
    items(x, 1, 5, 7, 8);
    due("the first to the last", x.copy(0, 0, 1, 2, 1), 1);
    items(x, 1, 5, 7, 1);
    due("all that the other has", x.copy(0, 2, 1, 0, 3), 1);
    items(x, 1, 3, 4, 5);
    items(x, 0, 1, 2, 3, 4, 5);
    due("onwards in itself", x.copy(0, 0, 0, 1, 4), 1);
    items(x, 0, 1, 1, 2, 3, 4);
    due("backwards in itself", x.copy(0, 1, 0, 0, 4), 1);
    items(x, 0, 1, 2, 3, 4, 4);
    due("all of itself", x.copy(0, 0, 0, 0, 5), 1);
    items(x, 0, 1, 2, 3, 4, 4);
    x.sheet(0, 0, 60);
    x.sheet(1, 0, 60);
    x.lay(0, 0, 59, -7);
    due("sixty", x.copy(0, 0, 1, 0, 60), 1);
    due("the sixtieth", x.get(1, 0, 59), -7);
    due("one more", x.copy(0, 0, 1, 0, 61), INDEX);

    sentence("BAD: the SHEETS; NULL: s, t; STORE; INDEX: below 0, not so many.");
    limits(BoundariesTest::rich, "copy(s, 0, 0, 0, 0)", 0, 3, (y, s) -> y.copy(s, 0, 0, 0, 0));
    limits(BoundariesTest::rich, "copy(0, 0, t, 0, 0)", 0, 3, (y, t) -> y.copy(0, 0, t, 0, 0));
    refused(BoundariesTest::rich, "copy(3, 0, 0, 0, 0)", y -> y.copy(3, 0, 0, 0, 0), NULL);
    refused(BoundariesTest::rich, "copy(0, 0, 3, 0, 0)", y -> y.copy(0, 0, 3, 0, 0), NULL);
    refused(BoundariesTest::rich, "copy(1, 0, 2, 0, 0)", y -> y.copy(1, 0, 2, 0, 0), STORE);
    int[][] wrongs = {
      {-1, 0, 1}, {0, -1, 1}, {0, 0, -1}, {-1, 0, 0}, {0, -1, 0}, {0, 0, 6}, {1, 0, 5}, {0, 1, 5}, {5, 0, 1},
      {0, 5, 1}, {6, 0, 0}, {0, 6, 0}, {LEAST, 0, 1}, {0, LEAST, 1}, {0, 0, LEAST}, {MOST, 0, 1}, {0, MOST, 1},
      {0, 0, MOST}, {1, 1, MOST}, {MOST, MOST, MOST}, {LEAST, LEAST, LEAST}, {5, 0, LEAST}, {6, 0, -1}, {0, 6, -1},
    };
    for (int[] w : wrongs) {
      String call = "copy(2, " + w[0] + ", 2, " + w[1] + ", " + w[2] + ")";
      refused(BoundariesTest::rich, call, y -> y.copy(2, w[0], 2, w[1], w[2]), INDEX);
    }
    refused(() -> unlikeSizes(), "more than the one has", y -> y.copy(0, 0, 1, 0, 3), INDEX);
    refused(() -> unlikeSizes(), "more than the other has", y -> y.copy(1, 0, 0, 0, 3), INDEX);
    refused(() -> unlikeSizes(), "from the other's end on", y -> y.copy(1, 3, 0, 2, 1), INDEX);
  }

  private static BowingBridges unlikeSizes() {
    BowingBridges x = new BowingBridges();
    lay(x, 0, 1, 1, 2);
    lay(x, 1, 1, 3, 4, 5, 6);
    return x;
  }

  private static void items(BowingBridges x, int s, int... want) {
    for (int i = 0; i < want.length; i++) {
      due("item " + i + " of SHEET " + s, x.get(s, 2, i), want[i]);
    }
  }

  private static void writing() {
    sentence("At which BRIDGE (NONE) BOATS 0 on are behind a STEP comes to a SHEET from item 0 on, as many as there are"
        + " items and BOATS: how many. BAD; NULL.");
    limits(BoundariesTest::rich, "write(0, s)", 0, 3, (x, s) -> x.write(0, s));
    refused(BoundariesTest::rich, "write(0, 3)", x -> x.write(0, 3), NULL);
    refused(BoundariesTest::rich, "write(99, 3)", x -> x.write(99, 3), NULL);
    for (int form = 0; form < 3; form++) {
      BowingBridges x = cut("la1", "a0;0;0;1");
      due("no items", written(x, form), 0);
      due("fewer items", written(x, form, 9, 9, 9), 3);
      due("as many items", written(x, form, 9, 9, 9, 9), 4);
      due("item 0", x.get(0, form, 0), 1);
      due("item 1", x.get(0, form, 1), 1);
      due("item 2", x.get(0, form, 2), 0);
      due("item 3", x.get(0, form, 3), NONE);
      due("more items", written(x, form, 9, 9, 9, 9, 9), 4);
      due("the one more stands", x.get(0, form, 4), 9);
    }
    BowingBridges x = cut("la1", "");
    due("no BOATS", written(x, 0, 9), 0);
    due("the item stands", x.get(0, 0, 0), 9);
    x = full();
    x.sheet(0, 0, 60);
    due("eight BOATS behind STEP 99", x.write(99, 0), 8);
    due("the last", x.get(0, 0, 7), 8);
    due("behind the last", x.get(0, 0, 8), 0);
  }

  private static int written(BowingBridges x, int form, int... items) {
    lay(x, 0, form, items);
    return x.write(0, 0);
  }

  private static void counting() {
    sentence("0 BRIDGES, 1 BOATS, 2, 3 bytes of texts, 4 SHAMS, 5 BOATS that are THROUGH behind STEP 99, 6 how much all"
        + " WAIT, 7 SEEN, 8 the number of the latest FINDING (0 before any). BAD.");
    limits(BoundariesTest::rich, "count(what)", 0, 8, (x, what) -> x.count(what));
    limits(BoundariesTest::empty, "count(what)", 0, 8, (x, what) -> x.count(what));
    // Of eight boats at eight bridges two go on in a step, so that the others wait 1, 1, 2, 2, 3 and 3.
    int[] fullest = {8, 8, 31, 63, 8, 8, 12, 8, 5};
    for (int what = 0; what <= 8; what++) {
      due("count(" + what + ")", full().count(what), fullest[what]);
    }
    due("all WAIT in all STEPS", cut("lb1", "a0;a0;a0;a0;a0;a0;a0;a0").count(6), 800);
    due("none is THROUGH", cut("lb1", "a0;a0;a0;a0;a0;a0;a0;a0").count(5), 0);
    BowingBridges x = rich();
    int[] found = {x.lose(3), x.count(8), x.lay(0, 0, 3, 0), x.count(8), x.lay(0, 1, 0, 0), x.count(8),
      x.copy(0, 0, 2, 0, 0), x.count(8), x.sheet(0, 0, -1), x.count(8), x.type(2, 0), x.count(8), x.lose(0), x.count(8)};
    int[] want = {-11, 1, -12, 2, -13, 3, -14, 4, -15, 5, -2, 5, 3, 5};
    due("the latest FINDING of each: 1 ", Arrays.equals(found, want) ? 1 : 0, 1);
  }

  private static void digesting() {
    sentence("h is 17; h becomes 31 h and each of: count() 0 to 7; of texts fault(); of BRIDGES bridge() 0 to 2, liked()"
        + " 0, 1, ask(it, 5), of BOATS lifts(the BRIDGE, it), passes(the BRIDGE, it, 0 and 1); of BOATS boat() 0 to 6,"
        + " at(5, it), at(30, it), waits(), cargo(it, NONE and 0), sail() 0, 1, under(), believed(5, it, 20), above,"
        + " below, loads(7, 4, it, 0 and 1); through(9), first() 0, 1, away() 0, 1; as longs that wrap.");
    digest("a new object", BoundariesTest::empty);
    digest("something of each kind", BoundariesTest::rich);
    digest("all that is full", BoundariesTest::full);
    digest("texts with a FAULT", BoundariesTest::faulty);
    digest("one SHAM", () -> shammed("la1", "0", 1, 0, 0));
    digest("boats that go on in STEP 30", () -> cut("me2;mf2;nd1;nb1;nd1;nb1;mf3;nd1",
        "dece9;db9;bcbce9;7;bdbbff3;fde9;bfeeab9;fc9"));
    digest("boats that go on in STEP 31", () -> cut("me2;mf2;nd1;nb1;nc1;nd1;mf2;nd1",
        "dece9;daeac9;cecb9;bfd9;accbe9;fde9;bfeeab9;f5"));
    digest("boats that are THROUGH by SHAMS about STEP 20", BoundariesTest::late);
    for (int many = 1; many <= 4; many++) {
      String few = "la" + many + ";nf1;lb" + many;
      String other = "lc" + many + ";nf1;ld" + many + ";nf9;le" + many + ";nf9;lf" + many;
      digest("loads", () -> cut(few, "0;9"));
      digest("loads", () -> cut(other, "0;9"));
      for (char mark = 'a'; mark <= 'f'; mark++) {
        String one = "l" + mark + many;
        digest("a load", () -> cut(one, "0"));
      }
    }
    digest("no BRIDGES", () -> cut("", "a0;9"));
    digest("no BOATS", () -> cut("la1;mb2", ""));
  }

  private static BowingBridges late() {
    BowingBridges x = cut("nd1;mf1;mf2;nb1;nd1;ne2;mf2;na2", "dedee9;d9;bbaebb9;c9;fcfc9;9;fbffc9;fe9");
    x.sham(2, 5);
    x.sham(4, 3);
    return x;
  }

  private static void digest(String name, Supplier<BowingBridges> start) {
    due("digest() of " + name, start.get().digest(), Digest.of(start));
  }

  /** The digest of an object by its other calls, in numbers that do not wrap until the end. */
  private static final class Digest {
    private BowingBridges x;
    private BigInteger h = BigInteger.valueOf(17);

    /** Goes on with a new object now and then, as one is used for 512 calls. */
    static long of(Supplier<BowingBridges> start) {
      Digest d = new Digest();
      d.x = start.get();
      int bridges = d.x.count(0);
      int boats = d.x.count(1);
      for (int what = 0; what <= 7; what++) {
        d.take(d.x.count(what));
      }
      d.take(d.x.fault(0), d.x.fault(1));
      for (int bridge = 0; bridge < bridges; bridge++) {
        d.takeBridge(bridge, boats);
      }
      d.x = start.get();
      for (int boat = 0; boat < boats; boat++) {
        d.takeBoat(boat);
      }
      d.take(d.x.through(9), d.x.first(0), d.x.first(1), d.x.away(0), d.x.away(1));
      return d.h.longValue();
    }

    private void takeBridge(int it, int boats) {
      take(x.bridge(it, 0), x.bridge(it, 1), x.bridge(it, 2), x.liked(it, 0), x.liked(it, 1), x.ask(it, 5));
      for (int boat = 0; boat < boats; boat++) {
        take(x.lifts(it, boat), x.passes(it, boat, 0), x.passes(it, boat, 1));
      }
    }

    private void takeBoat(int it) {
      for (int what = 0; what <= 6; what++) {
        take(x.boat(it, what));
      }
      take(x.at(5, it), x.at(30, it), x.waits(it), x.cargo(it, NONE), x.cargo(it, 0), x.sail(it, 0), x.sail(it, 1));
      take(x.under(it), x.believed(5, it, 20, 0), x.believed(5, it, 20, 1), x.loads(7, 4, it, 0), x.loads(7, 4, it, 1));
    }

    private void take(long... values) {
      for (long v : values) {
        h = h.multiply(BigInteger.valueOf(31)).add(BigInteger.valueOf(v));
      }
    }
  }

  // ---- the document

  /** No part of the document that asks for something is left without a test that quotes it. */
  private static void everyWordIsQuoted() throws IOException {
    Path document = Path.of("../shared/DOC.md");
    if (!Files.exists(document)) {
      System.out.println("no document at " + document + ": its words are not looked at");
      return;
    }
    String left = askedIn(Files.readString(document));
    quote = "the document";
    List<String> longestFirst = new ArrayList<>(QUOTES);
    longestFirst.sort((a, b) -> b.length() - a.length());
    for (String words : longestFirst) {
      due("it says '" + words + "': 1 ", left.contains(words) ? 1 : 0, 1);
    }
    for (String words : longestFirst) {
      left = left.replace(words, "|");
    }
    for (String part : left.split("\\|")) {
      due("not quoted: '" + part.trim() + "' ", part.matches("[ .,;:]*") ? 0 : 1, 0);
    }
  }

  /** The terms and the promises, as one line, without headings, calls and words on the order of the calls. */
  private static String askedIn(String document) {
    String from = document.substring(document.indexOf("BRIDGES are a text"));
    StringBuilder asked = new StringBuilder();
    boolean code = false;
    for (String line : from.substring(0, from.indexOf("## Not promised")).split("\n")) {
      if (line.startsWith("```")) {
        code = line.equals("```java");
      } else if (!code && !line.startsWith("#") && !line.startsWith("Ahead of the calls")) {
        asked.append(' ').append(line.replaceFirst("^======== [0-9] ", "").replaceFirst("^`[^`]*`: ", "")
            .replaceFirst("what later calls answer is free.", ""));
      }
    }
    return asked.toString().replaceAll(" +", " ");
  }
}
