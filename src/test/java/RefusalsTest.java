import java.util.ArrayList;
import java.util.List;
import java.util.function.Supplier;
import java.util.function.ToIntFunction;

/**
 * "Refused is, the first of these that fits, in this order: BAD, FULL, STATE, FINDING. What is refused changes
 * nothing but finding(), findings()": each refusal of each promise by itself, each two that fit at once, and what
 * the object answers afterwards, held against one of which nothing was asked.
 */
public final class RefusalsTest {
  private static final int BAD = -1, FULL = -2, FINDING = -3, STATE = -4, NONE = -9;
  private static final int NOTHING = 1, BEYOND = 2, UNLIKE = 3, NOUGHT = 4, SIZE = 5;
  private static int wrong = 0;

  /** Makes an object, each time by the same calls. */
  private interface Scene extends Supplier<HotPipes> {}

  private interface Call extends ToIntFunction<HotPipes> {}

  private static final Scene FRESH = HotPipes::new, BUSY = RefusalsTest::busy, FILLED = RefusalsTest::filled;
  private static final Scene UNREAD = RefusalsTest::unread, LEGLESS = RefusalsTest::legless;
  private static final Scene[] ANY = {FRESH, BUSY, FILLED, UNREAD, LEGLESS};

  /** RESTS of busy(), by what is to be said of them. */
  private static final int PLAIN = 0, HANGER = 1, SPRING = 2, GUIDE = 3, SPRING_BEYOND = 4, PLAIN_BEYOND = 5;
  private static final int PLAIN_GONE = 6, GUIDE_GONE = 7, SPRING_GONE = 8, SPRING_BEYOND_GONE = 9, NEVER_MADE = 10;
  private static final int[] GONE = {PLAIN_GONE, GUIDE_GONE, SPRING_GONE, SPRING_BEYOND_GONE};
  private static final int[] NO_SPRING = {PLAIN, HANGER, GUIDE, PLAIN_BEYOND};

  /** STUFFS of busy(): 0 has 16 bytes, 1 has 3, 2 has none, 3 is missing. */
  private static final int EMPTY = 2, MISSING = 3;

  /** LEGS of busy(): 2 has too few units for a LOOP. */
  private static final int SHORT_LEG = 2, BUSY_LEGS = 5, BUSY_LENGTH = 33;

  // ---- scenes

  /** A bit of all, with room for more, RESTS beyond the end, each FINDING answered once, and SIZE last. */
  private static HotPipes busy() {
    HotPipes x = unread();
    x.read(PLAIN, 100);
    x.read(HANGER, 90);
    x.read(SPRING, 120);
    x.read(GUIDE, 8);
    x.read(PLAIN_BEYOND, 44);
    return x;
  }

  private static HotPipes unread() {
    HotPipes x = new HotPipes();
    layStuffs(x);
    x.leg(0, 12, 0);
    x.leg(4, 6, 1);
    x.leg(2, 2, EMPTY);
    x.leg(5, 4, 0);
    x.leg(0, 9, MISSING);
    x.leg(2, 10, 0);
    int[][] rests = {{0, 6, 0}, {1, 15, 0}, {2, 20, 50}, {3, 24, 0}, {2, 35, 9}, {0, 36, 0}, {0, 28, 0}, {3, 29, 0},
      {2, 30, 7}, {2, 37, 8}};
    for (int[] r : rests) x.rest(r[0], r[1], r[2]);
    x.read(PLAIN_GONE, 77);
    for (int r : GONE) x.drop(r);
    x.cut();
    int[] rates = {400, 3, 90};
    for (int rate : rates) x.list(rate);
    tellCasesAndCycles(x);
    findEach(x);
    x.where(6, 0);
    x.used();
    return x;
  }

  private static void layStuffs(HotPipes x) {
    x.stuff(0, 16);
    for (int i = 0; i < 16; i++) x.lay(0, i, 7 * i - 20);
    x.stuff(1, 3);
    x.lay(1, 0, 5);
    x.lay(1, 2, -3);
    x.stuff(EMPTY, 0);
    int[] weights = {7, 13, 50, 1};
    for (int s = 0; s < 4; s++) x.weigh(s, weights[s]);
  }

  private static void tellCasesAndCycles(HotPipes x) {
    x.amount(0, 100, -1, 2);
    x.amount(1, -70, -3, 1);
    x.amount(2, 55, 0, 1);
    x.amount(7, 5, 1, 9);
    x.bar(0, 2, true);
    x.bar(1, 5, true);
    x.bar(6, 7, true);
    x.cycle(100, 3);
    x.cycle(7, 60);
    x.cycle(3, 20);
  }

  private static void findEach(HotPipes x) {
    x.tear(MISSING);
    x.lay(0, 16, 1);
    x.change(PLAIN, 0);
    x.mean(EMPTY);
    x.stuff(0, -1);
  }

  /** As busy(), and nothing has room for one more; some LEGS are short. */
  private static HotPipes filled() {
    HotPipes x = busy();
    for (int i = x.count(0); i < 12; i++) x.leg(2, i - 3, 1);
    for (int i = x.count(2); i < 12; i++) x.rest(0, i, 0);
    for (int i = x.count(4); i < 12; i++) x.list(20 * i);
    for (int i = x.count(5); i < 30; i++) x.cycle(i, i);
    return x;
  }

  /** As busy(), but all LEGS are cut away: no REST is there. */
  private static HotPipes legless() {
    HotPipes x = busy();
    for (int i = 0; i < BUSY_LEGS; i++) x.cut();
    return x;
  }

  // ---- what an object answers

  private static void note(List<String> seen, String call, long answer) {
    seen.add(call + " -> " + answer);
  }

  private static void noteAsked(List<String> seen, HotPipes x, String call, int answer) {
    seen.add(call + " -> " + answer + ", asked() " + x.asked());
  }

  private static void noteFraction(List<String> seen, HotPipes x, String call, int answer) {
    seen.add(call + " -> " + answer + ", " + x.upper() + " by " + x.lower());
  }

  /** All that shows the object's state, some 190 calls; first what was told last. */
  private static List<String> portrait(HotPipes x) {
    List<String> seen = new ArrayList<>();
    note(seen, "asked()", x.asked());
    note(seen, "upper()", x.upper());
    note(seen, "lower()", x.lower());
    note(seen, "digest()", x.digest());
    for (int what = 0; what < 6; what++) note(seen, "count(" + what + ")", x.count(what));
    for (int s = 0; s < 4; s++) note(seen, "mean(" + s + ")", x.mean(s));
    for (int axis = 0; axis < 3; axis++) noteAsked(seen, x, "where(L)", x.where(x.count(1), axis));
    for (int step = 0; step < 16; step += 5) portraitOfRun(x, step, seen);
    for (int r = 0; r < x.count(2); r++) portraitOfRest(x, r, seen);
    noteAsked(seen, x, "missing(0)", x.missing(0));
    noteAsked(seen, x, "missing(9)", x.missing(9));
    noteAsked(seen, x, "worst()", x.worst());
    noteFraction(seen, x, "used()", x.used());
    for (int c = 0; c < 8; c++) {
      for (int d = 0; d < c; d++) note(seen, "bar(" + c + ", " + d + ", false)", x.bar(c, d, false));
    }
    return seen;
  }

  private static void portraitOfRun(HotPipes x, int step, List<String> seen) {
    noteAsked(seen, x, "grown(" + step + ", 0)", x.grown(step, 0));
    noteAsked(seen, x, "grown(" + step + ", 2)", x.grown(step, 2));
    noteAsked(seen, x, "soft(" + step + ", 50)", x.soft(step, 50));
    noteAsked(seen, x, "bestLoop(" + step + ", 50)", x.bestLoop(step, 50));
  }

  private static void portraitOfRest(HotPipes x, int r, List<String> seen) {
    note(seen, "lifts(" + r + ", 9)", x.lifts(r, 9));
    noteFraction(seen, x, "load(" + r + ", 0)", x.load(r, 0));
    noteFraction(seen, x, "change(" + r + ", 9)", x.change(r, 9));
    note(seen, "choose(" + r + ", 9)", x.choose(r, 9));
    note(seen, "choose(" + r + ", 3)", x.choose(r, 3));
  }

  // ---- how it is looked at

  private static void due(String what, long got, long want) {
    if (got != want) {
      wrong++;
      System.out.println(what + ": answered " + got + ", due is " + want);
    }
  }

  private static void refused(String what, Scene scene, int want, Call call) {
    look(what, scene, want, 0, call);
  }

  private static void found(String what, Scene scene, int finding, Call call) {
    look(what, scene, FINDING, finding, call);
  }

  private static void badAnywhere(String what, Call call) {
    for (Scene scene : ANY) refused(what, scene, BAD, call);
  }

  /** The call is made twice, so that each answer of a FINDING is seen to be counted. */
  private static void look(String what, Scene scene, int want, int finding, Call call) {
    HotPipes asked = scene.get();
    HotPipes left = scene.get();
    due(what, call.applyAsInt(asked), want);
    due(what + ", again", call.applyAsInt(asked), want);
    due(what + ", finding()", asked.finding(), finding == 0 ? left.finding() : finding);
    for (int f = NOTHING; f <= SIZE; f++) {
      due(what + ", findings(" + f + ")", asked.findings(f), left.findings(f) + (f == finding ? 2 : 0));
    }
    List<String> now = portrait(asked);
    List<String> then = portrait(left);
    for (int i = 0; i < then.size(); i++) {
      if (!now.get(i).equals(then.get(i))) {
        wrong++;
        System.out.println(what + ", afterwards: " + now.get(i) + ", due is " + then.get(i));
        return;
      }
    }
  }

  private static int[] outside(int least, int greatest) {
    return new int[] {Integer.MIN_VALUE, least - 1, greatest + 1, Integer.MAX_VALUE};
  }

  private static int[] below(int least) {
    return new int[] {Integer.MIN_VALUE, least - 1};
  }

  private static int[] above(int greatest) {
    return new int[] {greatest + 1, Integer.MAX_VALUE};
  }

  // ---- 1 stuffs, the run

  /** "BAD: n above 16; SIZE." */
  private static void promise02Stuff() {
    for (int s : outside(0, 3)) {
      badAnywhere("2 stuff, BAD: STUFF " + s, x -> x.stuff(s, 4));
      badAnywhere("2 stuff, BAD ahead of SIZE: STUFF " + s, x -> x.stuff(s, -1));
    }
    for (int s = 0; s < 4; s++) {
      int stuff = s;
      for (int n : above(16)) badAnywhere("2 stuff, BAD: n " + n, x -> x.stuff(stuff, n));
      for (int n : below(0)) found("2 stuff, SIZE: n " + n, BUSY, SIZE, x -> x.stuff(stuff, n));
    }
    found("2 stuff, SIZE as the first FINDING", FRESH, SIZE, x -> x.stuff(0, -1));
  }

  /** "BAD; NOTHING; BEYOND." */
  private static void promise03Lay() {
    for (int s : outside(0, 3)) {
      badAnywhere("3 lay, BAD: STUFF " + s, x -> x.lay(s, 0, 9));
      badAnywhere("3 lay, BAD ahead of BEYOND: STUFF " + s, x -> x.lay(s, 16, 9));
    }
    found("3 lay, NOTHING", BUSY, NOTHING, x -> x.lay(MISSING, 0, 9));
    found("3 lay, NOTHING at first", FRESH, NOTHING, x -> x.lay(0, 0, 9));
    for (int i : outside(0, 15)) {
      found("3 lay, NOTHING ahead of BEYOND: byte " + i, BUSY, NOTHING, x -> x.lay(MISSING, i, 9));
      found("3 lay, BEYOND 16 bytes: byte " + i, BUSY, BEYOND, x -> x.lay(0, i, 9));
    }
    for (int i : outside(0, 2)) found("3 lay, BEYOND 3 bytes: byte " + i, BUSY, BEYOND, x -> x.lay(1, i, 9));
    for (int i : new int[] {-1, 0, 1}) found("3 lay, BEYOND no bytes: " + i, BUSY, BEYOND, x -> x.lay(EMPTY, i, 9));
  }

  /** "BAD; NOTHING." */
  private static void promise04Tear() {
    for (int s : outside(0, 3)) badAnywhere("4 tear, BAD: STUFF " + s, x -> x.tear(s));
    found("4 tear, NOTHING", BUSY, NOTHING, x -> x.tear(MISSING));
    for (int s = 0; s < 4; s++) {
      int stuff = s;
      found("4 tear, NOTHING at first", FRESH, NOTHING, x -> x.tear(stuff));
    }
  }

  /** "BAD; NOTHING: either; BEYOND: not so many there (a place, n below 0, too)." */
  private static void promise05Copy() {
    for (int s : outside(0, 3)) {
      badAnywhere("5 copy, BAD: from STUFF " + s, x -> x.copy(s, 0, 0, 0, 1));
      badAnywhere("5 copy, BAD: to STUFF " + s, x -> x.copy(0, 0, s, 0, 1));
      badAnywhere("5 copy, BAD ahead of NOTHING: from " + s, x -> x.copy(s, 0, MISSING, 0, 1));
      badAnywhere("5 copy, BAD ahead of NOTHING: to " + s, x -> x.copy(MISSING, 0, s, 0, 1));
      badAnywhere("5 copy, BAD ahead of BEYOND: from " + s, x -> x.copy(s, 99, 0, 99, -1));
      badAnywhere("5 copy, BAD ahead of BEYOND: to " + s, x -> x.copy(0, 99, s, 99, -1));
    }
    found("5 copy, NOTHING: from", BUSY, NOTHING, x -> x.copy(MISSING, 0, 0, 0, 1));
    found("5 copy, NOTHING: to", BUSY, NOTHING, x -> x.copy(0, 0, MISSING, 0, 1));
    found("5 copy, NOTHING: both", BUSY, NOTHING, x -> x.copy(MISSING, 0, MISSING, 0, 0));
    found("5 copy, NOTHING: none of it", BUSY, NOTHING, x -> x.copy(MISSING, 0, 0, 0, 0));
    found("5 copy, NOTHING ahead of BEYOND: from", BUSY, NOTHING, x -> x.copy(MISSING, 0, 0, 16, 1));
    found("5 copy, NOTHING ahead of BEYOND: to", BUSY, NOTHING, x -> x.copy(0, 16, MISSING, 0, 1));
    found("5 copy, NOTHING ahead of BEYOND: n", BUSY, NOTHING, x -> x.copy(0, 0, MISSING, 0, -1));
    int least = Integer.MIN_VALUE, most = Integer.MAX_VALUE;
    int[][] beyond = {{0, 0, -1}, {0, 0, least}, {-1, 0, 1}, {0, -1, 1}, {-1, 0, 0}, {0, -1, 0}, {least, 0, 1},
      {0, least, 1}, {17, 0, 0}, {0, 4, 0}, {16, 0, 1}, {0, 3, 1}, {14, 0, 3}, {0, 1, 3}, {0, 0, 4}, {0, 0, most},
      {most, 0, 1}, {0, most, 1}, {1, 1, most}, {most, most, most}, {least, least, least}, {most, most, 2},
      {1, 0, -1}, {0, 1, -1}};
    for (int[] b : beyond) {
      String told = "5 copy, BEYOND: " + b[0] + ", " + b[1] + ", " + b[2];
      found(told, BUSY, BEYOND, x -> x.copy(0, b[0], 1, b[1], b[2]));
      found(told + ", the other way round", BUSY, BEYOND, x -> x.copy(1, b[1], 0, b[0], b[2]));
    }
    found("5 copy, BEYOND: from no bytes", BUSY, BEYOND, x -> x.copy(EMPTY, 0, 0, 0, 1));
    found("5 copy, BEYOND: to no bytes", BUSY, BEYOND, x -> x.copy(0, 0, EMPTY, 0, 1));
    found("5 copy, BEYOND: itself", BUSY, BEYOND, x -> x.copy(1, 1, 1, 0, 3));
    found("5 copy, BEYOND: itself, to", BUSY, BEYOND, x -> x.copy(1, 0, 1, 1, 3));
  }

  /** "WEIGHT (1 .. 50). BAD." */
  private static void promise06Weigh() {
    for (int s : outside(0, 3)) badAnywhere("6 weigh, BAD: STUFF " + s, x -> x.weigh(s, 20));
    for (int s = 0; s < 4; s++) {
      int stuff = s;
      for (int w : outside(1, 50)) badAnywhere("6 weigh, BAD: w " + w, x -> x.weigh(stuff, w));
    }
  }

  /** "BAD; NOTHING; NOUGHT." */
  private static void promise07Mean() {
    for (int s : outside(0, 3)) badAnywhere("7 mean, BAD: STUFF " + s, x -> x.mean(s));
    found("7 mean, NOTHING", BUSY, NOTHING, x -> x.mean(MISSING));
    found("7 mean, NOTHING at first", FRESH, NOTHING, x -> x.mean(0));
    found("7 mean, NOUGHT", BUSY, NOUGHT, x -> x.mean(EMPTY));
  }

  /** "BAD; FULL." */
  private static void promise08Leg() {
    for (int way : outside(0, 5)) badAnywhere("8 leg, BAD (ahead of FULL): WAY " + way, x -> x.leg(way, 5, 0));
    for (int n : outside(1, 20)) badAnywhere("8 leg, BAD (ahead of FULL): units " + n, x -> x.leg(0, n, 0));
    for (int s : outside(0, 3)) badAnywhere("8 leg, BAD (ahead of FULL): STUFF " + s, x -> x.leg(0, 5, s));
    refused("8 leg, FULL", FILLED, FULL, x -> x.leg(0, 5, 0));
    refused("8 leg, FULL, the least", FILLED, FULL, x -> x.leg(0, 1, 0));
    refused("8 leg, FULL, of a missing STUFF", FILLED, FULL, x -> x.leg(5, 20, 3));
  }

  /** "STATE: none." */
  private static void promise09Cut() {
    refused("9 cut, STATE at first", FRESH, STATE, HotPipes::cut);
    refused("9 cut, STATE", LEGLESS, STATE, HotPipes::cut);
  }

  private static void promise10Where() {
    for (int p : below(0)) badAnywhere("10 where, BAD: PLACE " + p, x -> x.where(p, 0));
    for (Scene scene : ANY) {
      for (int p : above(scene.get().count(1))) refused("10 where, BAD: PLACE " + p, scene, BAD, x -> x.where(p, 0));
    }
    for (int what : outside(0, 2)) badAnywhere("10 where, BAD: what " + what, x -> x.where(0, what));
  }

  private static void promise11Grown() {
    for (int step : outside(0, 15)) badAnywhere("11 grown, BAD: STEP " + step, x -> x.grown(step, 0));
    for (int what : outside(0, 2)) badAnywhere("11 grown, BAD: what " + what, x -> x.grown(0, what));
  }

  private static void promise12Move() {
    for (int p : below(0)) badAnywhere("12 move, BAD: PLACE " + p, x -> x.move(p, 0));
    for (Scene scene : ANY) {
      for (int p : above(scene.get().count(1))) refused("12 move, BAD: PLACE " + p, scene, BAD, x -> x.move(p, 0));
    }
    for (int step : outside(0, 15)) badAnywhere("12 move, BAD: STEP " + step, x -> x.move(0, step));
  }

  /** "BAD; STATE: no LEGS." */
  private static void promise13Soft() {
    for (int step : outside(0, 15)) badAnywhere("13 soft, BAD (ahead of STATE): STEP " + step, x -> x.soft(step, 50));
    for (int d : outside(1, 100)) badAnywhere("13 soft, BAD (ahead of STATE): D " + d, x -> x.soft(0, d));
    refused("13 soft, STATE at first", FRESH, STATE, x -> x.soft(0, 1));
    refused("13 soft, STATE", LEGLESS, STATE, x -> x.soft(15, 100));
  }

  /** "BAD: also a WAY along it; STATE: the LEG has fewer than 3 units." */
  private static void promise14Loop() {
    for (int leg : below(0)) badAnywhere("14 loop, BAD: LEG " + leg, x -> x.loop(leg, 4, 0, 50));
    for (int leg : above(11)) badAnywhere("14 loop, BAD: LEG " + leg, x -> x.loop(leg, 4, 0, 50));
    for (int leg : above(BUSY_LEGS - 1)) refused("14 loop, BAD: LEG " + leg, BUSY, BAD, x -> x.loop(leg, 4, 0, 50));
    for (int way = 0; way < 6; way++) {
      int across = way;
      refused("14 loop, BAD: no LEGS at first", FRESH, BAD, x -> x.loop(0, across, 0, 50));
      refused("14 loop, BAD: no LEGS", LEGLESS, BAD, x -> x.loop(0, across, 0, 50));
    }
    // LEG 0 goes along x, LEG 1 along z; LEG 2, which is short, along y.
    int[][] alongs = {{0, 0}, {0, 1}, {1, 4}, {1, 5}, {SHORT_LEG, 2}, {SHORT_LEG, 3}};
    for (int[] a : alongs) refused("14 loop, BAD (ahead of STATE): along", BUSY, BAD, x -> x.loop(a[0], a[1], 0, 50));
    for (int leg : new int[] {0, SHORT_LEG}) {
      for (int way : outside(0, 5)) refused("14 loop, BAD (ahead of STATE): WAY", BUSY, BAD, x -> x.loop(leg, way, 0, 50));
      for (int step : outside(0, 15)) refused("14 loop, BAD (ahead of STATE): STEP", BUSY, BAD, x -> x.loop(leg, 4, step, 50));
      for (int d : outside(1, 100)) refused("14 loop, BAD (ahead of STATE): D", BUSY, BAD, x -> x.loop(leg, 4, 0, d));
    }
    for (int way : new int[] {0, 1, 4, 5}) {
      refused("14 loop, STATE: 2 units", BUSY, STATE, x -> x.loop(SHORT_LEG, way, 0, 50));
    }
    for (int n = 1; n <= 2; n++) {
      int units = n;
      Scene one = () -> oneLeg(units);
      refused("14 loop, STATE: " + n + " units", one, STATE, x -> x.loop(0, 2, 0, 50));
    }
  }

  private static HotPipes oneLeg(int units) {
    HotPipes x = new HotPipes();
    x.leg(0, units, 0);
    return x;
  }

  /** "BAD; STATE: no LEGS." */
  private static void promise15BestLoop() {
    for (int step : outside(0, 15)) badAnywhere("15 bestLoop, BAD (ahead of STATE): STEP " + step, x -> x.bestLoop(step, 50));
    for (int d : outside(1, 100)) badAnywhere("15 bestLoop, BAD (ahead of STATE): D " + d, x -> x.bestLoop(0, d));
    refused("15 bestLoop, STATE at first", FRESH, STATE, x -> x.bestLoop(0, 1));
    refused("15 bestLoop, STATE", LEGLESS, STATE, x -> x.bestLoop(15, 100));
  }

  // ---- 2 rests

  /** "BAD: also a PLACE at which another one is; FULL." */
  private static void promise16Rest() {
    for (int kind : outside(0, 3)) badAnywhere("16 rest, BAD (ahead of FULL): KIND " + kind, x -> x.rest(kind, 3, 50));
    for (int kind = 0; kind < 4; kind++) {
      int k = kind;
      for (int p : below(1)) badAnywhere("16 rest, BAD (ahead of FULL): PLACE " + p, x -> x.rest(k, p, 50));
      for (Scene scene : ANY) {
        int end = scene.get().count(1);
        for (int p : above(end - 1)) refused("16 rest, BAD (ahead of FULL): PLACE " + p, scene, BAD, x -> x.rest(k, p, 50));
      }
      for (int p : new int[] {6, 15, 20, 24}) {
        refused("16 rest, BAD: taken " + p, BUSY, BAD, x -> x.rest(k, p, 50));
        refused("16 rest, BAD ahead of FULL: taken " + p, FILLED, BAD, x -> x.rest(k, p, 50));
      }
      refused("16 rest, FULL", FILLED, FULL, x -> x.rest(k, 3, 50));
      refused("16 rest, FULL: at the PLACE of a dropped one", FILLED, FULL, x -> x.rest(k, 28, 50));
    }
    for (int rate : outside(1, 500)) {
      badAnywhere("16 rest, BAD (ahead of FULL): RATE " + rate, x -> x.rest(2, 3, rate));
      refused("16 rest, BAD: the last PLACE but RATE " + rate, BUSY, BAD, x -> x.rest(2, BUSY_LENGTH - 1, rate));
      for (int kind : new int[] {0, 1, 3}) {
        refused("16 rest, FULL: RATE not looked at", FILLED, FULL, x -> x.rest(kind, 3, rate));
      }
    }
  }

  /** A call that takes a REST and another number. */
  private interface RestCall {
    int make(HotPipes x, int rest, int other);
  }

  /** BAD of a REST and of the other number, NOTHING, and BAD ahead of NOTHING; other is one that is good. */
  private static void badOrNothing(String name, int other, int[] wrongOnes, RestCall call) {
    for (int r : outside(0, 11)) badAnywhere(name + ", BAD: REST " + r, x -> call.make(x, r, other));
    for (int r = NEVER_MADE; r < 12; r++) {
      int never = r;
      refused(name + ", BAD: REST never made " + r, BUSY, BAD, x -> call.make(x, never, other));
    }
    for (int r = 0; r < 12; r++) {
      int never = r;
      refused(name + ", BAD: no RESTS", FRESH, BAD, x -> call.make(x, never, other));
    }
    for (int w : wrongOnes) {
      for (int r = 0; r < NEVER_MADE; r++) {
        int any = r;
        refused(name + ", BAD (ahead of any FINDING): " + w, BUSY, BAD, x -> call.make(x, any, w));
      }
    }
    for (int r : GONE) {
      found(name + ", NOTHING: " + r, BUSY, NOTHING, x -> call.make(x, r, other));
      found(name + ", NOTHING, no LEGS: " + r, LEGLESS, NOTHING, x -> call.make(x, r, other));
    }
  }

  private static void promise17Drop() {
    badOrNothing("17 drop", 0, new int[0], (x, r, none) -> x.drop(r));
  }

  private static void promise18Told() {
    badOrNothing("18 told", 1, outside(0, 3), HotPipes::told);
  }

  private static void promise19Is() {
    badOrNothing("19 is", 1, outside(0, 3), HotPipes::is);
  }

  private static void promise20Lifts() {
    badOrNothing("20 lifts", 9, outside(0, 15), HotPipes::lifts);
  }

  private static void promise21Load() {
    badOrNothing("21 load", 9, outside(0, 15), HotPipes::load);
  }

  /** "BAD; NOTHING; UNLIKE." A dropped GUIDE is missing ahead of being of another KIND. */
  private static void promise22Change() {
    badOrNothing("22 change", 9, outside(0, 15), HotPipes::change);
    for (int r : NO_SPRING) found("22 change, UNLIKE: " + r, BUSY, UNLIKE, x -> x.change(r, 9));
    for (int r : NO_SPRING) found("22 change, UNLIKE, no LEGS: " + r, LEGLESS, UNLIKE, x -> x.change(r, 9));
  }

  /** "BAD; NOTHING; UNLIKE; NOUGHT." A GUIDE bears nothing, and one beyond the end does not, yet is UNLIKE first. */
  private static void promise23Firm() {
    badOrNothing("23 firm", 9, outside(0, 15), HotPipes::firm);
    for (int r : NO_SPRING) found("23 firm, UNLIKE (ahead of NOUGHT): " + r, BUSY, UNLIKE, x -> x.firm(r, 9));
    for (int r : NO_SPRING) found("23 firm, UNLIKE ahead of NOUGHT, no LEGS: " + r, LEGLESS, UNLIKE, x -> x.firm(r, 9));
    found("23 firm, NOUGHT: beyond the end", BUSY, NOUGHT, x -> x.firm(SPRING_BEYOND, 9));
    found("23 firm, NOUGHT: no LEGS", LEGLESS, NOUGHT, x -> x.firm(SPRING, 9));
  }

  /** "BAD; FULL." */
  private static void promise24List() {
    for (int rate : outside(1, 500)) badAnywhere("24 list, BAD (ahead of FULL): RATE " + rate, x -> x.list(rate));
    refused("24 list, FULL", FILLED, FULL, x -> x.list(500));
    refused("24 list, FULL: one that is on it", FILLED, FULL, x -> x.list(90));
  }

  /** "BAD; NOTHING; UNLIKE; NOUGHT: its LOAD is 0." */
  private static void promise25Choose() {
    badOrNothing("25 choose", 9, outside(0, 15), HotPipes::choose);
    for (int r : NO_SPRING) found("25 choose, UNLIKE (ahead of NOUGHT): " + r, BUSY, UNLIKE, x -> x.choose(r, 9));
    for (int r : NO_SPRING) found("25 choose, UNLIKE ahead of NOUGHT, no LEGS: " + r, LEGLESS, UNLIKE, x -> x.choose(r, 9));
    found("25 choose, NOUGHT: beyond the end", BUSY, NOUGHT, x -> x.choose(SPRING_BEYOND, 9));
    found("25 choose, NOUGHT: no LEGS", LEGLESS, NOUGHT, x -> x.choose(SPRING, 9));
    Scene listless = RefusalsTest::springBeyondNoList;
    found("25 choose, NOUGHT: and THE LIST is empty", listless, NOUGHT, x -> x.choose(0, 0));
  }

  private static HotPipes springBeyondNoList() {
    HotPipes x = new HotPipes();
    x.leg(0, 9, 0);
    x.rest(2, 4, 40);
    x.cut();
    return x;
  }

  // ---- 3 cases, cycles, what is missing

  /** "an amount (-10000 .. 10000) and two factors, low and high (-9 .. 9, low not above high). BAD." */
  private static void promise26Amount() {
    for (int c : outside(0, 7)) badAnywhere("26 amount, BAD: CASE " + c, x -> x.amount(c, 40, 1, 2));
    for (int c = 0; c < 8; c++) {
      int one = c;
      for (int v : outside(-10000, 10000)) badAnywhere("26 amount, BAD: v " + v, x -> x.amount(one, v, 1, 2));
      for (int low : below(-9)) badAnywhere("26 amount, BAD: low " + low, x -> x.amount(one, 40, low, 2));
      for (int high : above(9)) badAnywhere("26 amount, BAD: high " + high, x -> x.amount(one, 40, 1, high));
    }
    for (int f : below(-9)) badAnywhere("26 amount, BAD: both too low " + f, x -> x.amount(1, 40, f, f));
    for (int f : above(9)) badAnywhere("26 amount, BAD: both too high " + f, x -> x.amount(1, 40, f, f));
    badAnywhere("26 amount, BAD: both out", x -> x.amount(1, 40, -10, 10));
    for (int low = -8; low <= 9; low++) {
      int l = low;
      refused("26 amount, BAD: low above high", BUSY, BAD, x -> x.amount(1, 40, l, l - 1));
    }
    badAnywhere("26 amount, BAD: low far above high", x -> x.amount(1, 40, 9, -9));
  }

  /** "BAD: also the same one." */
  private static void promise27Bar() {
    for (boolean is : new boolean[] {true, false}) {
      for (int c : outside(0, 7)) {
        badAnywhere("27 bar, BAD: CASE " + c, x -> x.bar(c, 1, is));
        badAnywhere("27 bar, BAD: the other CASE " + c, x -> x.bar(1, c, is));
        badAnywhere("27 bar, BAD: the same, and none " + c, x -> x.bar(c, c, is));
      }
      for (int c = 0; c < 8; c++) {
        int one = c;
        badAnywhere("27 bar, BAD: the same one " + c, x -> x.bar(one, one, is));
      }
    }
  }

  /** "n times (1 .. 100000) at a range (1 .. 60). BAD; FULL: 30." */
  private static void promise29Cycle() {
    for (int n : outside(1, 100000)) badAnywhere("29 cycle, BAD (ahead of FULL): n " + n, x -> x.cycle(n, 30));
    for (int r : outside(1, 60)) badAnywhere("29 cycle, BAD (ahead of FULL): range " + r, x -> x.cycle(50, r));
    refused("29 cycle, FULL", FILLED, FULL, x -> x.cycle(50, 30));
    refused("29 cycle, FULL, the most", FILLED, FULL, x -> x.cycle(100000, 60));
  }

  /** "v (0 .. 100000), NONE: not told. BAD; NOTHING." */
  private static void promise31Read() {
    int[] wrongOnes = {Integer.MIN_VALUE, NONE - 1, NONE + 1, -1, 100001, Integer.MAX_VALUE};
    badOrNothing("31 read", 40, wrongOnes, HotPipes::read);
    badOrNothing("31 read, not told", NONE, wrongOnes, HotPipes::read);
  }

  /** "BAD; STATE: nothing was READ." */
  private static void promise32Missing() {
    for (int step : outside(0, 15)) badAnywhere("32 missing, BAD (ahead of STATE): STEP " + step, x -> x.missing(step));
    for (int step : new int[] {0, 15}) {
      refused("32 missing, STATE at first", FRESH, STATE, x -> x.missing(step));
      refused("32 missing, STATE: READ only of one that is missing", UNREAD, STATE, x -> x.missing(step));
      Scene unsaid = RefusalsTest::unsaid;
      refused("32 missing, STATE: not told any more", unsaid, STATE, x -> x.missing(step));
    }
  }

  private static HotPipes unsaid() {
    HotPipes x = busy();
    for (int r : new int[] {PLAIN, HANGER, SPRING, GUIDE, PLAIN_BEYOND}) x.read(r, NONE);
    return x;
  }

  // ---- 4 what is told

  private static void promise36Count() {
    for (int what : outside(0, 5)) badAnywhere("36 count, BAD: " + what, x -> x.count(what));
  }

  private static void promise38Findings() {
    for (int f : outside(1, 5)) badAnywhere("38 findings, BAD: " + f, x -> x.findings(f));
  }

  /** The scenes are what their names say; else the tests above would look at something else. */
  private static void scenes() {
    HotPipes x = busy();
    due("busy: LEGS", x.count(0), BUSY_LEGS);
    due("busy: L", x.count(1), BUSY_LENGTH);
    due("busy: RESTS ever", x.count(2), NEVER_MADE);
    due("busy: those not missing", x.count(3), NEVER_MADE - GONE.length);
    due("busy: REST beyond", x.told(PLAIN_BEYOND, 3), 0);
    due("busy: SPRING beyond", x.told(SPRING_BEYOND, 3), 0);
    due("busy: SPRING there", x.told(SPRING, 3), 1);
    due("busy: the latest FINDING", x.finding(), SIZE);
    for (int f = NOTHING; f <= SIZE; f++) due("busy: FINDING " + f, x.findings(f), 1);
    due("busy: asked", x.asked(), 6);
    due("busy: upper is not as at first", x.upper() > 1 ? 1 : 0, 1);
    due("busy: lower is not as at first", x.lower() > 1 ? 1 : 0, 1);
    x = filled();
    int[] counts = {12, 0, 12, 8, 12, 30};
    for (int what = 0; what < 6; what++) if (what != 1) due("filled: count " + what, x.count(what), counts[what]);
    due("legless: L", legless().count(1), 0);
  }

  public static void main(String[] args) {
    scenes();
    promise02Stuff();
    promise03Lay();
    promise04Tear();
    promise05Copy();
    promise06Weigh();
    promise07Mean();
    promise08Leg();
    promise09Cut();
    promise10Where();
    promise11Grown();
    promise12Move();
    promise13Soft();
    promise14Loop();
    promise15BestLoop();
    promise16Rest();
    promise17Drop();
    promise18Told();
    promise19Is();
    promise20Lifts();
    promise21Load();
    promise22Change();
    promise23Firm();
    promise24List();
    promise25Choose();
    promise26Amount();
    promise27Bar();
    promise29Cycle();
    promise31Read();
    promise32Missing();
    promise36Count();
    promise38Findings();
    System.out.println(wrong == 0 ? "each refusal is as due" : wrong + " answers are not as due");
    if (wrong != 0) System.exit(1);
  }
}
