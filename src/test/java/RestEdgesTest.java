/**
 * The boundary cases of promises 16 to 25 and of the terms that they use (RESTS, LOADS, SPRINGS, THE LIST), in the
 * document's order; above each test stand the document's words. What is refused is looked at in RefusalsTest.
 */
public final class RestEdgesTest {
  private static final int BAD = -1, FULL = -2, FINDING = -3, NONE = -9;
  private static final int NOTHING = 1, NOUGHT = 4;
  private static final int REST = 0, HANGER = 1, SPRING = 2, GUIDE = 3;
  private static final int MIN = Integer.MIN_VALUE, MAX = Integer.MAX_VALUE;
  private static int wrong = 0;

  private static void due(String what, long got, long want) {
    if (got != want) {
      wrong++;
      System.out.println(what + ": answered " + got + ", due is " + want);
    }
  }

  private static void dueFraction(String what, HotPipes x, int answer, long upper, long lower) {
    due(what, answer, 1);
    due(what + ", upper", x.upper(), upper);
    due(what + ", lower", x.lower(), lower);
  }

  private static void dueFinding(String what, HotPipes x, int answer, int finding) {
    due(what, answer, FINDING);
    due(what + ", finding", x.finding(), finding);
  }

  /** So many units along x. */
  private static HotPipes straight(int units) {
    HotPipes x = new HotPipes();
    for (int left = units; left > 0; left -= 20) x.leg(0, Math.min(left, 20), 0);
    return x;
  }

  /** One unit up that grows by v at STEP 0, then one along x: PLACE 1 MOVES by v; WEIGHTS of the two are told. */
  private static HotPipes risen(int v, int weightAhead, int weightBehind) {
    HotPipes x = new HotPipes();
    x.stuff(0, 1);
    x.lay(0, 0, v);
    x.weigh(0, weightAhead);
    x.weigh(1, weightBehind);
    x.leg(4, 1, 0);
    x.leg(0, 1, 1);
    return x;
  }

  // ---- promise 16: "each at a PLACE 1 .. L - 1 (no two at one)", "(12 at most ever; dropped ones are missing)"

  private static void promise16Places() {
    for (int length : new int[] {0, 1, 2, 3, 20, 21, 239, 240}) {
      for (int kind = 0; kind < 4; kind++) {
        HotPipes x = straight(length);
        due("16 at the one anchor, L " + length, x.rest(kind, 0, 50), BAD);
        due("16 at the other anchor, L " + length, x.rest(kind, length, 50), BAD);
        due("16 beyond, L " + length, x.rest(kind, length + 1, 50), BAD);
        due("16 the last PLACE, L " + length, x.rest(kind, length - 1, 50), length > 1 ? 0 : BAD);
        due("16 the first PLACE, L " + length, x.rest(kind, 1, 50), length > 2 ? 1 : BAD);
        due("16 how many", x.count(2), Math.max(0, Math.min(length - 1, 2)));
      }
    }
  }

  private static void promise16Rates() {
    for (int rate : new int[] {1, 2, 499, 500}) {
      HotPipes x = straight(5);
      due("16 RATE " + rate, x.rest(SPRING, 1, rate), 0);
      due("16 its RATE", x.told(0, 2), rate);
    }
    for (int kind : new int[] {REST, HANGER, GUIDE}) {
      for (int rate : new int[] {MIN, -1, 0, 1, 500, 501, MAX}) {
        HotPipes x = straight(5);
        due("16 not looked at: RATE " + rate, x.rest(kind, 4, rate), 0);
        due("16 it has none", x.told(0, 2), NONE);
      }
    }
  }

  private static void promise16Twelve() {
    HotPipes x = straight(20);
    for (int i = 0; i < 12; i++) due("16 its number", x.rest(i % 4, 12 - i, 1), i);
    due("16 one more", x.rest(REST, 13, 0), FULL);
    for (int i = 0; i < 12; i++) {
      due("16 drop", x.drop(i), 1);
      due("16 twelve ever: no room by dropping", x.rest(REST, 12 - i, 0), FULL);
    }
    due("16 ever", x.count(2), 12);
    due("16 those not missing", x.count(3), 0);
  }

  private static void promise16NoTwoAtOne() {
    for (int first = 0; first < 4; first++) {
      for (int second = 0; second < 4; second++) {
        HotPipes x = straight(5);
        x.leg(0, 5, 0);
        x.rest(first, 6, 1);
        due("16 taken", x.rest(second, 6, 1), BAD);
        due("16 just ahead of it", x.rest(second, 5, 1), 1);
        due("16 just behind it", x.rest(second, 7, 1), 2);
        x.cut();
        due("16 no PLACE now", x.rest(second, 6, 1), BAD);
        x.leg(2, 5, 0);
        due("16 there again, so it is taken", x.rest(second, 6, 1), BAD);
        x.drop(0);
        due("16 where the missing one was", x.rest(second, 6, 1), 3);
        due("16 taken by the new one", x.rest(first, 6, 1), BAD);
      }
    }
  }

  // ---- promise 17: "A REST is missing from now on: 1."

  private static void promise17Drop() {
    HotPipes x = straight(20);
    for (int i = 0; i < 12; i++) x.rest(i % 4, i + 1, 1);
    for (int i = 11; i >= 0; i--) {
      due("17 REST " + i, x.drop(i), 1);
      due("17 those not missing", x.count(3), i);
      due("17 ever", x.count(2), 12);
      dueFinding("17 from now on", x, x.drop(i), NOTHING);
      dueFinding("17 told() of it", x, x.told(i, 0), NOTHING);
    }
    x = straight(5);
    x.leg(0, 5, 0);
    x.rest(REST, 7, 0);
    x.cut();
    due("17 one that is not there", x.drop(0), 1);
    dueFinding("17 one that is not there, again", x, x.drop(0), NOTHING);
    x.leg(0, 5, 0);
    dueFinding("17 it does not come back", x, x.told(0, 3), NOTHING);
  }

  // ---- promise 18: "2 RATE (NONE: no SPRING), 3 whether it counts as there"; "if its PLACE is not below L any
  // more, it counts as not there"

  private static void promise18There() {
    for (int place = 1; place <= 14; place++) {
      for (int kind = 0; kind < 4; kind++) {
        HotPipes x = new HotPipes();
        for (int i = 0; i < 5; i++) x.leg(2 * (i % 3), 3, 0);
        x.rest(kind, place, 500);
        for (int legs = 5; legs >= 0; legs--) {
          String told = "18 PLACE " + place + ", L " + x.count(1);
          due(told + ", there", x.told(0, 3), place < 3 * legs ? 1 : 0);
          due(told + ", KIND", x.told(0, 0), kind);
          due(told + ", PLACE", x.told(0, 1), place);
          due(told + ", RATE", x.told(0, 2), kind == SPRING ? 500 : NONE);
          due(told + ", not missing", x.count(3), 1);
          x.cut();
        }
        due("18 L is 0", x.count(1), 0);
        for (int i = 0; i < 12; i++) x.leg(0, 1, 0);
        due("18 there again, PLACE " + place, x.told(0, 3), place < 12 ? 1 : 0);
      }
    }
  }

  // ---- promise 19: "0 REST, 1 HANGER (a REST, too), 2 SPRING (a HANGER), 3 GUIDE (a REST)"

  private static void promise19Is() {
    int[][] is = {{1, 0, 0, 0}, {1, 1, 0, 0}, {1, 1, 1, 0}, {1, 0, 0, 1}};
    HotPipes x = straight(5);
    for (int own = 0; own < 4; own++) x.rest(own, own + 1, 1);
    for (int legs = 1; legs >= 0; legs--) {
      for (int own = 0; own < 4; own++) {
        for (int kind = 0; kind < 4; kind++) due("19 KIND " + own + " is " + kind, x.is(own, kind), is[own][kind]);
      }
      // What a REST is does not go by whether it is there.
      x.cut();
    }
  }

  // ---- promise 20: "a REST (KIND 0) and a HANGER (KIND 1) LIFT, if the MOVE of their PLACE is above 0"

  private static void promise20AboveNought() {
    for (int kind = 0; kind < 4; kind++) {
      for (int v : new int[] {-128, -1, 0, 1, 127}) {
        HotPipes x = risen(v, 10, 10);
        x.rest(kind, 1, 1);
        due("20 KIND " + kind + ", MOVE " + v, x.lifts(0, 0), kind <= HANGER && v > 0 ? 1 : 0);
        due("20 no such byte", x.lifts(0, 15), 0);
        x.tear(0);
        due("20 the STUFF is missing", x.lifts(0, 0), 0);
      }
    }
    HotPipes x = new HotPipes();
    x.stuff(0, 16);
    x.lay(0, 15, 1);
    x.leg(4, 2, 0);
    x.leg(5, 4, 0);
    for (int place = 1; place <= 5; place++) x.rest(REST, place, 0);
    int[] lifts = {1, 1, 1, 0, 0};
    for (int r = 0; r < 5; r++) {
      due("20 up and down, PLACE " + (r + 1), x.lifts(r, 15), lifts[r]);
      due("20 up and down, a STEP ahead, PLACE " + (r + 1), x.lifts(r, 14), 0);
    }
    x.lay(0, 15, -1);
    for (int r = 0; r < 5; r++) due("20 shrinking, PLACE " + (r + 1), x.lifts(r, 15), r == 4 ? 1 : 0);
  }

  /** What counts as not there does not LIFT: at L, and beyond it. */
  private static void promise20NotThere() {
    for (int left = 0; left <= 4; left++) {
      HotPipes x = new HotPipes();
      x.stuff(0, 1);
      x.lay(0, 0, 1);
      for (int i = 0; i < 5; i++) x.leg(4, 1, 0);
      for (int place = 1; place <= 4; place++) x.rest(place % 2, place, 0);
      for (int i = left; i < 5; i++) x.cut();
      for (int r = 0; r < 4; r++) due("20 PLACE " + (r + 1) + ", L " + left, x.lifts(r, 0), r + 1 < left ? 1 : 0);
    }
  }

  // ---- promise 21: "half the WEIGHT of all units from the one BEARING ahead of it (or the anchor) to the next
  // BEARING one (or the other anchor); 0 of the others"

  private static void promise21Alone() {
    for (int length = 2; length <= 20; length++) {
      for (int place = 1; place < length; place++) {
        HotPipes x = straight(length);
        x.weigh(0, 1);
        x.rest(place % 3, place, 1);
        boolean even = length % 2 == 0;
        dueFraction("21 alone, L " + length, x, x.load(0, 0), even ? length / 2 : length, even ? 1 : 2);
      }
    }
    HotPipes x = straight(240);
    x.rest(HANGER, 239, 0);
    x.weigh(0, 50);
    dueFraction("21 the most", x, x.load(0, 15), 6000, 1);
    x = straight(2);
    x.weigh(0, 1);
    x.rest(REST, 1, 0);
    dueFraction("21 the least", x, x.load(0, 0), 1, 1);
  }

  /** RESTS at each PLACE, their numbers not in the order of their PLACES. */
  private static void promise21Crowded() {
    HotPipes x = straight(13);
    x.weigh(0, 3);
    for (int i = 0; i < 12; i++) x.rest(i % 3, 1 + i * 5 % 12, 1);
    for (int r = 0; r < 12; r++) dueFraction("21 each bears two halves", x, x.load(r, 0), 3, 1);
    due("21 one less", x.drop(6), 1);
    int gone = 1 + 6 * 5 % 12;
    for (int r = 0; r < 12; r++) {
      int place = 1 + r * 5 % 12;
      boolean beside = Math.abs(place - gone) == 1;
      if (r != 6) dueFraction("21 its neighbours bear more", x, x.load(r, 0), beside ? 9 : 3, beside ? 2 : 1);
    }
  }

  /** What is between two RESTS that bear: nothing, or one that does not bear, for each reason there is. */
  private static void promise21NotBearing() {
    // 4 units along x, 2 up, 6 along y: 12 in all, and 4 more that may be cut; WEIGHT 10 each.
    for (int kind = 0; kind < 4; kind++) {
      for (int v = -1; v <= 1; v++) {
        HotPipes x = new HotPipes();
        x.stuff(0, 1);
        x.lay(0, 0, v);
        x.leg(0, 4, 0);
        x.leg(4, 2, 0);
        x.leg(2, 6, 0);
        x.rest(SPRING, 3, 1);
        x.rest(kind, 7, 1);
        x.rest(SPRING, 10, 1);
        boolean bears = kind == SPRING || (kind != GUIDE && v <= 0);
        String told = "21 KIND " + kind + ", MOVE " + 2 * v;
        dueFraction(told + ", ahead of it", x, x.load(0, 0), bears ? 35 : 50, 1);
        dueFraction(told + ", it", x, x.load(1, 0), bears ? 35 : 0, 1);
        dueFraction(told + ", behind it", x, x.load(2, 0), bears ? 25 : 45, 1);
        dueFraction(told + ", cold", x, x.load(1, 15), kind == GUIDE ? 0 : 35, 1);
        x.drop(1);
        dueFraction(told + ", dropped", x, x.load(0, 0), 50, 1);
      }
    }
  }

  private static void promise21NotThere() {
    for (int kind = 0; kind < 4; kind++) {
      HotPipes x = straight(10);
      x.leg(0, 4, 0);
      x.rest(REST, 9, 0);
      x.rest(kind, 10, 1);
      x.rest(kind, 11, 1);
      boolean bears = kind != GUIDE;
      dueFraction("21 there", x, x.load(0, 0), bears ? 50 : 70, 1);
      x.cut();
      dueFraction("21 up to the anchor", x, x.load(0, 0), 50, 1);
      dueFraction("21 at L", x, x.load(1, 0), 0, 1);
      dueFraction("21 beyond L", x, x.load(2, 0), 0, 1);
      x.leg(0, 1, 0);
      dueFraction("21 at L - 1 again", x, x.load(1, 0), bears ? 10 : 0, 1);
      dueFraction("21 at L still", x, x.load(2, 0), 0, 1);
      x.cut();
      x.cut();
      for (int r = 0; r < 3; r++) dueFraction("21 no LEGS", x, x.load(r, 0), 0, 1);
    }
  }

  /** The WEIGHT of each unit is that of its own STUFF, just up to the PLACE. */
  private static void promise21Stuffs() {
    for (int place = 1; place <= 11; place++) {
      HotPipes x = new HotPipes();
      int[] weights = {1, 7, 50};
      for (int s = 0; s < 3; s++) {
        x.weigh(s, weights[s]);
        x.leg(2 * s, 4, s);
      }
      x.rest(SPRING, place, 1);
      if (place > 1) x.rest(SPRING, place - 1, 1);
      if (place < 11) x.rest(SPRING, place + 1, 1);
      int both = weights[(place - 1) / 4] + weights[place / 4];
      dueFraction("21 the unit ahead and the one behind, " + place, x, x.load(0, 0), both % 2 == 0 ? both / 2 : both,
          both % 2 == 0 ? 1 : 2);
      x.tear(0);
      dueFraction("21 the others stay as they were", x, x.load(0, 0), both % 2 == 0 ? both / 2 : both,
          both % 2 == 0 ? 1 : 2);
    }
  }

  // ---- promise 22: "RATE times MOVE of its PLACE (without sign) by 1000"; "in lowest terms (0 by 1)"

  private static void promise22Change() {
    int[][] all = {{1, 0, 0, 1}, {500, 0, 0, 1}, {1, 1, 1, 1000}, {1, -1, 1, 1000}, {500, 2, 1, 1}, {500, -2, 1, 1},
      {8, 125, 1, 1}, {8, -125, 1, 1}, {3, 7, 21, 1000}, {499, 127, 63373, 1000}, {500, 127, 127, 2}, {500, -128, 64, 1},
      {250, 4, 1, 1}, {250, 6, 3, 2}, {10, 100, 1, 1}, {9, 100, 9, 10}};
    for (int[] a : all) {
      HotPipes x = risen(a[1], 10, 10);
      x.rest(SPRING, 1, a[0]);
      dueFraction("22 RATE " + a[0] + ", MOVE " + a[1], x, x.change(0, 0), a[2], a[3]);
      dueFraction("22 no such byte", x, x.change(0, 15), 0, 1);
    }
    HotPipes x = new HotPipes();
    x.stuff(0, 16);
    x.lay(0, 15, -128);
    for (int i = 0; i < 12; i++) x.leg(4, 20, 0);
    x.rest(SPRING, 239, 500);
    dueFraction("22 the most", x, x.change(0, 15), 15296, 1);
    x.rest(SPRING, 1, 500);
    dueFraction("22 at the first PLACE", x, x.change(1, 15), 64, 1);
    x.cut();
    dueFraction("22 beyond L: the units ahead of it are all", x, x.change(0, 15), 14080, 1);
  }

  // ---- promise 23: "FIRMNESS: CHANGE by its LOAD (NOUGHT, if that is 0)"

  private static void promise23Firm() {
    // RATE, MOVE, the WEIGHT ahead and behind; FIRMNESS.
    int[][] all = {{1, 0, 1, 1, 0, 1}, {500, 2, 1, 1, 1, 1}, {500, -2, 1, 1, 1, 1}, {500, 127, 1, 1, 127, 2},
      {500, -128, 1, 1, 64, 1}, {1, 1, 50, 50, 1, 50000}, {1, 1, 1, 2, 1, 1500}, {375, 4, 1, 2, 1, 1},
      {3, 125, 1, 2, 1, 4}, {100, 10, 3, 4, 2, 7}, {7, 100, 3, 4, 1, 5}};
    for (int[] a : all) {
      HotPipes x = risen(a[1], a[2], a[3]);
      x.rest(SPRING, 1, a[0]);
      dueFraction("23 RATE " + a[0] + ", MOVE " + a[1], x, x.firm(0, 0), a[4], a[5]);
      dueFraction("23 no such byte", x, x.firm(0, 15), 0, 1);
    }
    HotPipes x = new HotPipes();
    x.stuff(0, 1);
    x.lay(0, 0, -128);
    x.weigh(0, 1);
    for (int i = 0; i < 12; i++) x.leg(4, 20, 0);
    x.rest(SPRING, 239, 500);
    dueFraction("23 bears all", x, x.firm(0, 0), 1912, 15);
    x.rest(REST, 238, 0);
    dueFraction("23 the most: the one ahead does not lift", x, x.firm(0, 0), 15296, 1);
    x.lay(0, 0, 127);
    dueFraction("23 the one ahead lifts", x, x.firm(0, 0), 30353, 240);
  }

  private static void promise23Nought() {
    HotPipes x = straight(5);
    x.leg(0, 5, 0);
    x.rest(SPRING, 4, 9);
    x.rest(SPRING, 5, 9);
    x.rest(SPRING, 6, 9);
    x.cut();
    dueFraction("23 just there", x, x.firm(0, 0), 0, 1);
    dueFinding("23 at L it bears nothing", x, x.firm(1, 0), NOUGHT);
    dueFinding("23 beyond L it bears nothing", x, x.firm(2, 0), NOUGHT);
    x.leg(0, 1, 0);
    dueFraction("23 there again", x, x.firm(1, 0), 0, 1);
    dueFinding("23 at the new L", x, x.firm(2, 0), NOUGHT);
    due("23 each was counted", x.findings(NOUGHT), 3);
  }

  // ---- promise 24: "A RATE more on THE LIST: how many." "(12 at most)"

  private static void promise24List() {
    HotPipes x = new HotPipes();
    for (int i = 1; i <= 12; i++) due("24 RATE " + i, x.list(i % 2 == 0 ? 1 : 500), i);
    due("24 one more", x.list(1), FULL);
    due("24 how many", x.count(4), 12);
    for (int rate : new int[] {1, 2, 499, 500}) {
      x = straight(2);
      x.rest(SPRING, 1, 7);
      due("24 RATE " + rate, x.list(rate), 1);
      due("24 it is on it", x.choose(0, 0), rate);
    }
    x = straight(2);
    x.rest(SPRING, 1, 7);
    for (int i = 1; i <= 12; i++) {
      x.list(10 * i);
      due("24 each is on it", x.choose(0, 0), 10 * i);
    }
    x.list(499);
    due("24 what is refused is not on it", x.choose(0, 0), 120);
  }

  // ---- promise 25: "the greatest RATE of THE LIST with which FIRMNESS would be a quarter at most"

  /** A quarter of LOAD is (the two WEIGHTS) by 8; the greatest RATE that is let is 125 times them by MOVE, cut. */
  private static void promise25Quarter() {
    int[][] weights = {{1, 1}, {1, 2}, {3, 4}, {10, 10}, {17, 30}, {50, 50}};
    for (int[] w : weights) {
      for (int v = -128; v <= 127; v++) {
        int most = v == 0 ? MAX : 125 * (w[0] + w[1]) / Math.abs(v);
        HotPipes x = risen(v, w[0], w[1]);
        x.rest(SPRING, 1, 33);
        String told = "25 WEIGHTS " + w[0] + " and " + w[1] + ", MOVE " + v;
        if (most < 500) {
          x.list(most + 1);
          due(told + ", one too firm", x.choose(0, 0), NONE);
          due(told + ", it keeps its own", x.told(0, 2), 33);
        }
        int let = Math.min(most, 500);
        x.list(let > 1 ? let - 1 : 1);
        x.list(let);
        due(told + ", just let", x.choose(0, 0), let);
        due(told + ", it gets it", x.told(0, 2), let);
        due(told + ", again", x.choose(0, 0), let);
      }
    }
  }

  private static void promise25List() {
    HotPipes x = risen(100, 10, 10);
    x.rest(SPRING, 1, 1);
    due("25 THE LIST is empty", x.choose(0, 0), NONE);
    due("25 it keeps its own", x.told(0, 2), 1);
    // 25 is let at STEP 0; cold, all are.
    int[] rates = {26, 500, 3, 24, 24, 1, 400, 2, 25, 4, 25, 499};
    int[] chosen = {NONE, NONE, 3, 24, 24, 24, 24, 24, 25, 25, 25, 25};
    int[] cold = {26, 500, 500, 500, 500, 500, 500, 500, 500, 500, 500, 500};
    int has = 1;
    for (int i = 0; i < 12; i++) {
      x.list(rates[i]);
      due("25 of " + (i + 1), x.choose(0, 0), chosen[i]);
      has = chosen[i] == NONE ? has : chosen[i];
      due("25 its RATE, of " + (i + 1), x.told(0, 2), has);
      due("25 of " + (i + 1) + ", cold", x.choose(0, 15), cold[i]);
      has = cold[i];
    }
    due("25 THE LIST stays", x.count(4), 12);
    x.cut();
    dueFinding("25 at L", x, x.choose(0, 0), NOUGHT);
    due("25 at L it keeps its own", x.told(0, 2), 500);
  }

  /** Another SPRING keeps its RATE, and no fraction is told. */
  private static void promise25OnlyOne() {
    HotPipes x = straight(9);
    x.rest(SPRING, 3, 11);
    x.rest(SPRING, 6, 12);
    x.list(70);
    x.where(5, 0);
    x.load(0, 0);
    due("25 the second", x.choose(1, 0), 70);
    due("25 the first keeps its own", x.told(0, 2), 11);
    due("25 the second has it", x.told(1, 2), 70);
    due("25 no fraction is told, upper", x.upper(), 30);
    due("25 no fraction is told, lower", x.lower(), 1);
    due("25 nothing is told by asked()", x.asked(), 5);
    due("25 no FINDING", x.finding(), 0);
  }

  public static void main(String[] args) {
    promise16Places();
    promise16Rates();
    promise16Twelve();
    promise16NoTwoAtOne();
    promise17Drop();
    promise18There();
    promise19Is();
    promise20AboveNought();
    promise20NotThere();
    promise21Alone();
    promise21Crowded();
    promise21NotBearing();
    promise21NotThere();
    promise21Stuffs();
    promise22Change();
    promise23Firm();
    promise23Nought();
    promise24List();
    promise25Quarter();
    promise25List();
    promise25OnlyOne();
    System.out.println(wrong == 0 ? "rests keep their boundaries" : wrong + " answers are not as due");
    if (wrong != 0) System.exit(1);
  }
}
