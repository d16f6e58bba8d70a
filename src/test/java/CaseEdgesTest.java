import java.util.ArrayList;
import java.util.LinkedHashMap;
import java.util.List;
import java.util.Map;
import java.util.Random;
import java.util.Set;
import java.util.TreeSet;
import java.util.function.Function;

/**
 * The boundary cases of promises 26 to 39 and of the terms that they use (CASES, CYCLES, READ, MISSING, what is told),
 * in the document's order; above each test stand the document's words. What is refused is looked at in RefusalsTest.
 */
public final class CaseEdgesTest {
  private static final int BAD = -1, FULL = -2, FINDING = -3, STATE = -4, NONE = -9;
  private static final int NOTHING = 1, BEYOND = 2, UNLIKE = 3, NOUGHT = 4, SIZE = 5;
  private static int wrong = 0;

  private static void due(String what, long got, long want) {
    if (got != want) {
      wrong++;
      System.out.println(what + ": answered " + got + ", due is " + want);
    }
  }

  private static void dueAsked(String what, HotPipes x, int answer, int wantAnswer, int wantAsked) {
    due(what, answer, wantAnswer);
    due(what + ", asked", x.asked(), wantAsked);
  }

  private static void dueFraction(String what, HotPipes x, int answer, int wantAnswer, long upper, long lower) {
    due(what, answer, wantAnswer);
    due(what + ", upper", x.upper(), upper);
    due(what + ", lower", x.lower(), lower);
  }

  /** So many units along x. */
  private static HotPipes straight(int units) {
    HotPipes x = new HotPipes();
    for (int left = units; left > 0; left -= 20) x.leg(0, Math.min(left, 20), 0);
    return x;
  }

  // ---- promise 26: "an amount (-10000 .. 10000; 0 at first) and two factors, low and high (-9 .. 9, low not above
  // high; 0 and 1 at first)"

  private static void promise26EachFactor() {
    for (int low = -9; low <= 9; low++) {
      for (int high = low; high <= 9; high++) {
        HotPipes x = new HotPipes();
        int c = Math.floorMod(low + high, 8);
        for (int v : new int[] {-10000, -9999, -1, 0, 1, 9999, 10000}) {
          due("26 " + v + ", " + low + ", " + high, x.amount(c, v, low, high), 1);
          int most = Math.max(0, Math.max(v * low, v * high));
          dueAsked("26 WORST of it", x, x.worst(), most, most > 0 ? 1 << c : 0);
        }
      }
    }
  }

  /** Each CASE has its own, and what is told anew takes the place of what was. */
  private static void promise26EachCase() {
    for (int c = 0; c < 8; c++) {
      HotPipes x = new HotPipes();
      long first = x.digest();
      due("26 CASE " + c, x.amount(c, 5, 1, 2), 1);
      long h = 17;
      for (int i = 0; i < 6; i++) h = 31 * h;
      for (int d = 0; d < 8; d++) h = (((h * 31 + (d == c ? 5 : 0)) * 31) + (d == c ? 1 : 0)) * 31 + (d == c ? 2 : 1);
      for (int s = 0; s < 4; s++) h = (h * 31 + 10) * 31 - 1;
      due("26 only CASE " + c, x.digest(), h);
      x.amount(c, 0, 0, 1);
      due("26 as at first again", x.digest(), first);
    }
  }

  // ---- promise 27: "Two CASES are BARRED, or not any more: 1 if they were."

  private static void promise27EachPair() {
    for (int c = 0; c < 8; c++) {
      for (int d = 0; d < 8; d++) {
        if (c == d) continue;
        HotPipes x = new HotPipes();
        due("27 not any more, though they were not", x.bar(c, d, false), 0);
        due("27 BARRED", x.bar(c, d, true), 0);
        due("27 BARRED again", x.bar(c, d, true), 1);
        due("27 BARRED again, the other way round", x.bar(d, c, true), 1);
        for (int e = 0; e < 8; e++) {
          for (int f = 0; f < e; f++) {
            boolean same = Math.min(c, d) == f && Math.max(c, d) == e;
            if (!same) due("27 no other two", x.bar(e, f, false), 0);
          }
        }
        due("27 not any more", x.bar(d, c, false), 1);
        due("27 not any more, again", x.bar(c, d, false), 0);
      }
    }
  }

  /** BARRED is who goes with whom, not what they amount to. */
  private static void promise27Stays() {
    HotPipes x = new HotPipes();
    long first = x.digest();
    x.bar(3, 4, true);
    due("27 no CASE changes", x.digest(), first);
    x.amount(3, 50, 1, 1);
    x.amount(4, 60, 1, 1);
    dueAsked("27 BARRED stays with new amounts", x, x.worst(), 60, 16);
    x.bar(4, 3, false);
    dueAsked("27 not any more", x, x.worst(), 110, 24);
  }

  // ---- promise 28: "the greatest JOINED there can be (none: 0), of alike ones the least set (bits)"

  private static void promise28Edges() {
    HotPipes x = new HotPipes();
    x.where(0, 0);
    dueAsked("28 none", x, x.worst(), 0, 0);
    for (int c = 0; c < 8; c++) x.amount(c, -10000, 9, 9);
    dueAsked("28 all are below 0: none", x, x.worst(), 0, 0);
    for (int c = 0; c < 8; c++) x.amount(c, 10000, 0, 0);
    dueAsked("28 all are 0: the least set", x, x.worst(), 0, 0);
    for (int c = 0; c < 8; c++) x.amount(c, 10000, -9, 9);
    dueAsked("28 all, by high", x, x.worst(), 720000, 255);
    for (int c = 0; c < 8; c++) x.amount(c, -10000, -9, 9);
    dueAsked("28 all, by low", x, x.worst(), 720000, 255);
    for (int c = 0; c < 8; c++) for (int d = 0; d < c; d++) x.bar(c, d, true);
    dueAsked("28 all BARRED: one alone, the least", x, x.worst(), 90000, 1);
    x.amount(7, -10000, -9, 8);
    x.amount(0, -9999, -9, 8);
    dueAsked("28 all BARRED: the greatest", x, x.worst(), 90000, 2);
    x.amount(0, 1, -1, 0);
    dueAsked("28 one that adds 0 stays out", x, x.worst(), 90000, 2);
  }

  private static void promise28Alike() {
    HotPipes x = new HotPipes();
    x.amount(0, 4, 1, 1);
    x.amount(1, 6, 1, 1);
    x.amount(2, 10, 1, 1);
    x.bar(2, 0, true);
    x.bar(2, 1, true);
    dueAsked("28 two and one are alike: the least bits", x, x.worst(), 10, 3);
    x.amount(2, 11, 1, 1);
    dueAsked("28 one is more", x, x.worst(), 11, 4);
    x.amount(2, 9, 1, 1);
    dueAsked("28 one is less", x, x.worst(), 10, 3);
    x = new HotPipes();
    x.amount(6, 7, 1, 1);
    x.amount(7, 7, 1, 1);
    x.bar(6, 7, true);
    dueAsked("28 the last two", x, x.worst(), 7, 64);
    x.amount(6, 6, 1, 1);
    dueAsked("28 the last one", x, x.worst(), 7, 128);
  }

  /** All sets, each CASE in it by low or by high. */
  private static void promise28AllSets() {
    Random chance = new Random(28);
    for (int run = 0; run < 200; run++) {
      HotPipes x = new HotPipes();
      int[][] cases = new int[8][];
      boolean[][] barred = new boolean[8][8];
      for (int c = 0; c < 8; c++) {
        int low = chance.nextInt(7) - 4;
        cases[c] = new int[] {chance.nextInt(7) - 3, low, low + chance.nextInt(3)};
        x.amount(c, cases[c][0], cases[c][1], cases[c][2]);
        for (int d = 0; d < c; d++) {
          barred[c][d] = chance.nextInt(4) == 0;
          x.bar(d, c, barred[c][d]);
        }
      }
      int worst = 0, least = 0;
      for (int set = 0; set < 256; set++) {
        int sum = joined(cases, barred, set);
        if (sum > worst) {
          worst = sum;
          least = set;
        }
      }
      dueAsked("28 of all sets, run " + run, x, x.worst(), worst, least);
    }
  }

  private static int joined(int[][] cases, boolean[][] barred, int set) {
    int sum = 0;
    for (int c = 0; c < 8; c++) {
      if ((set >> c & 1) == 0) continue;
      for (int d = 0; d < c; d++) if ((set >> d & 1) == 1 && barred[c][d]) return 0;
      sum += Math.max(cases[c][0] * cases[c][1], cases[c][0] * cases[c][2]);
    }
    return sum;
  }

  // ---- promise 29: "n times (1 .. 100000) at a range: how many such lines there are. FULL: 30."

  private static void promise29Lines() {
    HotPipes x = new HotPipes();
    for (int i = 1; i <= 30; i++) {
      due("29 line " + i, x.cycle(i % 2 == 0 ? 100000 : 1, i % 3 == 0 ? 60 : 1), i);
      due("29 counted", x.count(5), i);
    }
    due("29 one more", x.cycle(1, 1), FULL);
    due("29 thirty still", x.count(5), 30);
  }

  // ---- promise 30: "N of r: 65536, halved as often as there are whole fours in r"; "1 if it is above 1, else 0"

  private static void promise30EachRange() {
    for (int r = 1; r <= 60; r++) {
      int borne = 65536;
      for (int fours = 4; fours <= r; fours += 4) borne /= 2;
      HotPipes x = new HotPipes();
      x.cycle(1, r);
      dueFraction("30 once at " + r, x, x.used(), 0, 1, borne);
      x.cycle(borne - 1, r);
      dueFraction("30 just all at " + r, x, x.used(), 0, 1, 1);
      x.cycle(1, r);
      dueFraction("30 one more at " + r, x, x.used(), 1, borne + 1, borne);
    }
  }

  private static void promise30Edges() {
    HotPipes x = straight(3);
    x.rest(0, 1, 0);
    x.load(0, 0);
    dueFraction("30 nothing was told", x, x.used(), 0, 0, 1);
    x.cycle(100000, 3);
    dueFraction("30 the most at the least", x, x.used(), 1, 3125, 2048);
    x = new HotPipes();
    for (int i = 0; i < 30; i++) x.cycle(100000, 60);
    dueFraction("30 the most there can be", x, x.used(), 1, 1500000, 1);
    x = new HotPipes();
    x.cycle(65535, 1);
    x.cycle(1, 4);
    dueFraction("30 joined, just above 1", x, x.used(), 1, 65537, 65536);
    x = new HotPipes();
    x.cycle(1, 60);
    x.cycle(1, 59);
    x.cycle(8192, 8);
    dueFraction("30 joined, above 1", x, x.used(), 1, 5, 4);
    x = new HotPipes();
    x.cycle(1, 60);
    x.cycle(1, 56);
    x.cycle(4096, 8);
    dueFraction("30 joined, just 1", x, x.used(), 0, 1, 1);
    due("30 the lines stay", x.count(5), 3);
    dueFraction("30 asked again", x, x.used(), 0, 1, 1);
  }

  // ---- promise 31: "READ of a REST is v (0 .. 100000), NONE: not told: what it was."

  private static void promise31Read() {
    for (int kind = 0; kind < 4; kind++) {
      HotPipes x = straight(5);
      x.leg(0, 5, 0);
      x.rest(kind, 7, 1);
      x.rest(kind, 2, 1);
      int was = NONE;
      for (int v : new int[] {NONE, 0, 1, 0, 99999, 100000, NONE, NONE, 100000}) {
        due("31 what it was, ahead of " + v, x.read(0, v), was);
        was = v;
      }
      x.cut();
      due("31 of one that is not there", x.read(0, 5), 100000);
      x.leg(0, 5, 0);
      due("31 there again", x.read(0, 6), 5);
      due("31 the other one's was not told", x.read(1, 3), NONE);
      x.drop(1);
      x.rest(kind, 2, 1);
      due("31 of a new one at the same PLACE", x.read(2, 3), NONE);
    }
  }

  // ---- promise 32: "the least sum; none at all comes first, then the least REST"

  private static void promise32WasRead() {
    HotPipes x = straight(4);
    x.rest(3, 2, 0);
    due("32 nothing was READ", x.missing(0), STATE);
    x.read(0, 0);
    dueAsked("32 0 was READ", x, x.missing(0), NONE, 0);
    x.read(0, NONE);
    due("32 not told any more", x.missing(0), STATE);
    x.read(0, 100000);
    dueAsked("32 the most was READ", x, x.missing(15), NONE, 100000);
    x.drop(0);
    due("32 the one of which it was told is missing", x.missing(0), STATE);
  }

  /** Two RESTS of 9 units of WEIGHT 10, at 3 and 6: each bears 60, doubled; alone 90. */
  private static HotPipes two(int firstPlace, int secondPlace) {
    HotPipes x = straight(9);
    x.rest(0, firstPlace, 0);
    x.rest(1, secondPlace, 0);
    return x;
  }

  private static void promise32Alike() {
    for (int turn = 0; turn < 2; turn++) {
      HotPipes x = turn == 0 ? two(3, 6) : two(6, 3);
      x.read(0, 75);
      x.read(1, 75);
      // With both 15 and 15; with one alone 15.
      dueAsked("32 alike: the least REST, not the first PLACE", x, x.missing(0), 0, 15);
      x.read(1, 76);
      dueAsked("32 the least sum", x, x.missing(0), 0, 14);
      x.read(0, 77);
      dueAsked("32 the least sum, the other one", x, x.missing(0), 1, 13);
      x.read(0, 60);
      x.read(1, 60);
      dueAsked("32 all as READ: none at all", x, x.missing(0), NONE, 0);
      x.read(0, 90);
      x.read(1, 60);
      dueAsked("32 the second is missing: its own reading is no matter", x, x.missing(0), 1, 0);
      x.read(1, NONE);
      x.read(0, 60);
      dueAsked("32 alike: none at all ahead of REST 0", x, x.missing(0), NONE, 0);
      x.read(0, 75);
      dueAsked("32 alike, not with none: the one READ, taken away", x, x.missing(0), 0, 0);
    }
    HotPipes x = straight(12);
    for (int i = 1; i <= 3; i++) x.rest(0, 3 * i, 0);
    x.read(0, 60);
    x.read(2, 90);
    // Each bears 60 doubled, and 90 if one beside it is missing.
    dueAsked("32 the one that was READ otherwise, taken away", x, x.missing(0), 2, 0);
    x.read(0, 90);
    dueAsked("32 one of which nothing was told", x, x.missing(0), 1, 0);
    x.read(0, 30);
    x.read(2, 30);
    dueAsked("32 the first and the last are alike", x, x.missing(0), 0, 30);
  }

  /** Only BEARING ones may be missing; of all that are not dropped what was READ is compared. */
  private static void promise32WhoMay() {
    for (int kind = 0; kind < 4; kind++) {
      for (int v = -1; v <= 1; v++) {
        HotPipes x = new HotPipes();
        x.stuff(0, 1);
        x.lay(0, 0, v);
        x.leg(4, 3, 0);
        x.leg(0, 3, 0);
        x.rest(kind, 3, 1);
        x.read(0, 500);
        boolean bears = kind == 2 || (kind != 3 && v <= 0);
        dueAsked("32 KIND " + kind + ", MOVE " + 3 * v, x, x.missing(0), bears ? 0 : NONE, bears ? 0 : 500);
        boolean bearsCold = kind != 3;
        dueAsked("32 cold, KIND " + kind, x, x.missing(1), bearsCold ? 0 : NONE, bearsCold ? 0 : 500);
        x.cut();
        dueAsked("32 at L, KIND " + kind, x, x.missing(0), NONE, 500);
        x.cut();
        dueAsked("32 no LEGS, KIND " + kind, x, x.missing(0), NONE, 500);
      }
    }
    HotPipes x = two(3, 6);
    x.read(0, 90);
    x.drop(1);
    dueAsked("32 one that is dropped is no choice", x, x.missing(0), NONE, 0);
  }

  private static void promise32Twelve() {
    HotPipes x = straight(13);
    for (int i = 0; i < 12; i++) {
      x.rest(i % 3, 1 + i, 1);
      x.read(i, 100000);
    }
    // Each bears 20 doubled; without one its neighbours bear 30; the ends have one neighbour only.
    dueAsked("32 the greatest sum: an inner one", x, x.missing(0), 1, 11 * 99980 - 20);
    for (int i = 0; i < 12; i++) x.read(i, 0);
    dueAsked("32 all READ as 0: the first end", x, x.missing(0), 0, 11 * 20 + 10);
    x.read(11, 20);
    dueAsked("32 the last as it is", x, x.missing(0), 0, 10 * 20 + 10);
    while (x.count(0) > 0) x.cut();
    dueAsked("32 no LEGS", x, x.missing(0), NONE, 20);
  }

  // ---- promises 33, 34, 35: "What the latest where(), grown(), move(), soft(), bestLoop(), worst(), missing() that
  // was not refused told"; "The upper number of the fraction that was told last"

  private static final Set<String> TELL_ASKED = Set.of("where", "grown", "move", "soft", "bestLoop", "worst", "missing");
  private static final Set<String> TELL_FRACTION = Set.of("load", "change", "firm", "used");

  /** A run at which each call is answered, and each number that may be told differs from those told before. */
  private static HotPipes telling() {
    HotPipes x = new HotPipes();
    x.stuff(0, 2);
    x.lay(0, 1, -9);
    x.leg(4, 9, 0);
    x.leg(2, 9, 0);
    x.rest(2, 5, 40);
    x.rest(0, 12, 0);
    x.list(30);
    x.amount(4, 50, 1, 2);
    x.cycle(3, 60);
    x.read(0, 1);
    x.read(1, 2);
    x.where(17, 1);
    x.change(0, 1);
    return x;
  }

  /** Each call of the face, with arguments that telling() does not refuse. */
  private static Map<String, Function<HotPipes, Long>> answered() {
    Map<String, Function<HotPipes, Long>> all = new LinkedHashMap<>();
    all.put("stuff", x -> (long) x.stuff(3, 2));
    all.put("lay", x -> (long) x.lay(0, 0, 0));
    all.put("tear", x -> (long) x.tear(0));
    all.put("copy", x -> (long) x.copy(0, 0, 0, 1, 1));
    all.put("weigh", x -> (long) x.weigh(0, 20));
    all.put("mean", x -> x.mean(0) + 1000L);
    all.put("leg", x -> (long) x.leg(0, 2, 0));
    all.put("cut", x -> (long) x.cut());
    all.put("where", x -> (long) x.where(9, 2));
    all.put("grown", x -> (long) x.grown(1, 2));
    all.put("move", x -> (long) x.move(5, 1));
    all.put("soft", x -> (long) x.soft(1, 10));
    all.put("loop", x -> (long) x.loop(0, 1, 1, 10));
    all.put("bestLoop", x -> (long) x.bestLoop(1, 10));
    all.put("rest", x -> (long) x.rest(0, 3, 0));
    all.put("drop", x -> (long) x.drop(0));
    all.put("told", x -> (long) x.told(0, 1));
    all.put("is", x -> (long) x.is(0, 1));
    all.put("lifts", x -> (long) x.lifts(0, 1));
    all.put("load", x -> (long) x.load(0, 1));
    all.put("change", x -> (long) x.change(0, 0));
    all.put("firm", x -> (long) x.firm(0, 1));
    all.put("list", x -> (long) x.list(20));
    all.put("choose", x -> (long) x.choose(0, 1));
    all.put("amount", x -> (long) x.amount(0, 5, 1, 1));
    all.put("bar", x -> (long) x.bar(0, 1, true));
    all.put("worst", x -> (long) x.worst());
    all.put("cycle", x -> (long) x.cycle(1, 1));
    all.put("used", x -> (long) x.used());
    all.put("read", x -> (long) x.read(0, 7));
    all.put("missing", x -> (long) x.missing(0) - NONE);
    all.put("asked", x -> (long) x.asked());
    all.put("upper", HotPipes::upper);
    all.put("lower", HotPipes::lower);
    all.put("count", x -> (long) x.count(0));
    all.put("finding", x -> (long) x.finding());
    all.put("findings", x -> (long) x.findings(1));
    all.put("digest", x -> Math.abs(x.digest()));
    return all;
  }

  private static void promise33And34And35WhoTells() {
    Map<String, Function<HotPipes, Long>> all = answered();
    due("33 each call of the face", all.size(), 38);
    Set<String> askedChanged = new TreeSet<>(), fractionChanged = new TreeSet<>();
    for (Map.Entry<String, Function<HotPipes, Long>> call : all.entrySet()) {
      HotPipes x = telling();
      int asked = x.asked();
      long upper = x.upper(), lower = x.lower();
      due("33 " + call.getKey() + " is not refused", call.getValue().apply(x) >= 0 ? 1 : 0, 1);
      if (x.asked() != asked) askedChanged.add(call.getKey());
      if (x.upper() != upper || x.lower() != lower) fractionChanged.add(call.getKey());
    }
    if (!askedChanged.equals(TELL_ASKED)) {
      wrong++;
      System.out.println("33 asked() is changed by " + askedChanged);
    }
    if (!fractionChanged.equals(TELL_FRACTION)) {
      wrong++;
      System.out.println("34, 35 the fraction is changed by " + fractionChanged);
    }
  }

  private static void promise33Asked() {
    HotPipes x = new HotPipes();
    due("33 before", x.asked(), 0);
    x = telling();
    dueAsked("33 where()", x, x.where(18, 1), 1, 9);
    dueAsked("33 grown()", x, x.grown(1, 1), 1, -81);
    dueAsked("33 move()", x, x.move(4, 1), 1, -36);
    dueAsked("33 soft(), what is more", x, x.soft(1, 100), 0, 30 * 36 - 100 * 114);
    dueAsked("33 bestLoop()", x, x.bestLoop(1, 100), 0, 7);
    dueAsked("33 worst()", x, x.worst(), 100, 16);
    // REST 0 bears 120 doubled, REST 1 130; alone they bear 180.
    dueAsked("33 missing()", x, x.missing(0), 0, 178);
    x.lay(0, 1, 127);
    dueAsked("33 bestLoop() NONE leaves it", x, x.bestLoop(1, 100), NONE, 178);
    x.cut();
    x.cut();
    dueAsked("33 soft() refused leaves it", x, x.soft(1, 100), STATE, 178);
    dueAsked("33 where() refused leaves it", x, x.where(1, 0), BAD, 178);
    dueAsked("33 worst() of none", x, x.amount(4, 0, 0, 0) * x.worst(), 0, 0);
  }

  /** "in lowest terms, the lower number above 0 (0 by 1)" */
  private static void promise34And35Fraction() {
    HotPipes x = new HotPipes();
    due("34 before", x.upper(), 0);
    due("35 before", x.lower(), 1);
    x = telling();
    dueFraction("34, 35 load()", x, x.load(1, 0), 1, 65, 1);
    dueFraction("34, 35 change()", x, x.change(0, 1), 1, 9, 5);
    dueFraction("34, 35 firm()", x, x.firm(0, 1), 1, 3, 100);
    dueFraction("34, 35 used()", x, x.used(), 1, 3, 2);
    dueFraction("34, 35 load() of a half", x, x.weigh(0, 1) / 10 * x.load(1, 0), 1, 13, 2);
    dueFraction("34, 35 change() 0 by 1", x, x.change(0, 0), 1, 0, 1);
    x.used();
    dueFraction("34, 35 firm() 0 by 1", x, x.firm(0, 0), 1, 0, 1);
    x.used();
    x.drop(0);
    dueFraction("34, 35 NOTHING leaves it", x, x.load(0, 0), FINDING, 3, 2);
    dueFraction("34, 35 UNLIKE leaves it", x, x.firm(1, 0), FINDING, 3, 2);
    x.cut();
    dueFraction("34, 35 load() 0 by 1", x, x.load(1, 0), 1, 0, 1);
  }

  // ---- promise 36: "0 LEGS, 1 L, 2 RESTS ever, 3 those that are not missing, 4 RATES on THE LIST, 5 lines"

  private static void dueCounts(String what, HotPipes x, int... counts) {
    for (int k = 0; k < 6; k++) due(what + ", " + k, x.count(k), counts[k]);
    due(what + ", beyond", x.count(6), BAD);
    due(what + ", below", x.count(-1), BAD);
  }

  private static void promise36Count() {
    HotPipes x = new HotPipes();
    dueCounts("36 the empty", x, 0, 0, 0, 0, 0, 0);
    for (int i = 0; i < 12; i++) x.leg(0, 20, 0);
    for (int i = 0; i < 12; i++) x.rest(0, 239 - i, 0);
    for (int i = 0; i < 12; i++) x.list(500);
    for (int i = 0; i < 30; i++) x.cycle(1, 1);
    dueCounts("36 the full", x, 12, 240, 12, 12, 12, 30);
    x.leg(0, 1, 0);
    x.rest(0, 1, 0);
    x.list(1);
    x.cycle(1, 1);
    dueCounts("36 the full refuse", x, 12, 240, 12, 12, 12, 30);
    x.drop(0);
    x.drop(0);
    x.cut();
    dueCounts("36 not there is not missing", x, 11, 220, 12, 11, 12, 30);
    for (int i = 0; i < 12; i++) x.cut();
    for (int i = 0; i < 12; i++) x.drop(i);
    dueCounts("36 cut and dropped", x, 0, 0, 12, 0, 12, 30);
  }

  // ---- promises 37, 38: "The latest FINDING (0 before any)." "How often a FINDING (1 .. 5) was answered."

  private static void promise37And38EachFinding() {
    HotPipes x = straight(4);
    x.rest(0, 1, 0);
    x.rest(2, 2, 1);
    x.stuff(1, 0);
    int[] often = new int[6];
    for (int turn = 0; turn < 3; turn++) {
      for (int f = NOTHING; f <= SIZE; f++) {
        due("37 FINDING " + f, find(x, f), FINDING);
        often[f]++;
        due("37 the latest", x.finding(), f);
        for (int g = NOTHING; g <= SIZE; g++) due("38 how often " + g, x.findings(g), often[g]);
        x.stuff(0, 17);
        x.worst();
        x.missing(0);
        due("37 BAD, STATE and answers leave it", x.finding(), f);
      }
    }
    for (int f : new int[] {0, 6, -1, Integer.MIN_VALUE, Integer.MAX_VALUE}) due("38 no FINDING", x.findings(f), BAD);
    due("37 nor does asking", x.finding(), SIZE);
  }

  private static int find(HotPipes x, int f) {
    switch (f) {
      case NOTHING: return x.tear(3);
      case BEYOND: return x.lay(1, 0, 0);
      case UNLIKE: return x.change(0, 0);
      case NOUGHT: return x.mean(1);
      default: return x.stuff(1, -1);
    }
  }

  // ---- promise 39: "h = 17; then h = 31 h + v for each v"

  private static long mixed(List<Integer> all) {
    long h = 17;
    for (int v : all) h = 31 * h + v;
    return h;
  }

  private static void addAll(List<Integer> to, int... all) {
    for (int v : all) to.add(v);
  }

  private static void promise39Full() {
    HotPipes x = new HotPipes();
    List<Integer> all = new ArrayList<>();
    addAll(all, 12, 240, 12, 9, 12, 30);
    for (int i = 0; i < 12; i++) {
      x.leg(i % 6, 20, 3 - i % 4);
      addAll(all, i % 6, 20, 3 - i % 4);
    }
    for (int r = 0; r < 12; r++) {
      x.rest(r % 4, 239 - r, 500 - r);
      x.read(r, r % 3 == 0 ? NONE : r % 3 == 1 ? 0 : 100000);
      if (r % 5 == 1) {
        x.drop(r);
        addAll(all, -1);
      } else {
        addAll(all, r % 4, 239 - r, r % 4 == 2 ? 500 - r : NONE, 1, r % 3 == 0 ? NONE : r % 3 == 1 ? 0 : 100000);
      }
    }
    for (int i = 0; i < 12; i++) x.list(i + 1);
    for (int i = 0; i < 30; i++) x.cycle(i + 1, i + 1);
    for (int c = 0; c < 8; c++) {
      x.amount(c, c % 2 == 0 ? 10000 : -10000, -9, 9 - c);
      addAll(all, c % 2 == 0 ? 10000 : -10000, -9, 9 - c);
    }
    for (int s = 0; s < 4; s++) {
      x.weigh(s, 50 - s);
      addAll(all, 50 - s, 16);
      x.stuff(s, 16);
      for (int i = 0; i < 16; i++) {
        x.lay(s, i, 16 * i - 128 + s);
        addAll(all, 16 * i - 128 + s);
      }
    }
    due("39 the full", x.digest(), mixed(all));
  }

  /** What is not there is told as 0; a STUFF without bytes has size 0, a missing one -1 and no bytes. */
  private static void promise39Edges() {
    HotPipes x = straight(5);
    x.leg(0, 1, 0);
    x.rest(2, 5, 9);
    x.cut();
    x.stuff(0, 0);
    x.stuff(1, 1);
    x.lay(1, 0, -1);
    x.stuff(2, 16);
    x.lay(2, 15, 7);
    x.tear(2);
    List<Integer> all = new ArrayList<>();
    addAll(all, 1, 5, 1, 1, 0, 0, 0, 5, 0, 2, 5, 9, 0, NONE);
    for (int c = 0; c < 8; c++) addAll(all, 0, 0, 1);
    addAll(all, 10, 0, 10, 1, -1, 10, -1, 10, -1);
    due("39 the edges", x.digest(), mixed(all));
    long was = x.digest();
    x.bar(0, 1, true);
    x.where(5, 0);
    x.change(0, 0);
    x.tear(3);
    x.findings(1);
    due("39 only what is told of is in it", x.digest(), was);
    x.read(0, 0);
    due("39 READ as 0 is not as not told", x.digest() == was ? 1 : 0, 0);
    x.read(0, NONE);
    due("39 not told again", x.digest(), was);
  }

  public static void main(String[] args) {
    promise26EachFactor();
    promise26EachCase();
    promise27EachPair();
    promise27Stays();
    promise28Edges();
    promise28Alike();
    promise28AllSets();
    promise29Lines();
    promise30EachRange();
    promise30Edges();
    promise31Read();
    promise32WasRead();
    promise32Alike();
    promise32WhoMay();
    promise32Twelve();
    promise33And34And35WhoTells();
    promise33Asked();
    promise34And35Fraction();
    promise36Count();
    promise37And38EachFinding();
    promise39Full();
    promise39Edges();
    System.out.println(wrong == 0 ? "cases, cycles and what is told keep their boundaries" : wrong + " answers are not as due");
    if (wrong != 0) System.exit(1);
  }
}
