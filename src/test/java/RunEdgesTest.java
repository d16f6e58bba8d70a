import java.math.BigInteger;

/**
 * The boundary cases of promises 1 to 15 and of the terms that they use (STUFFS, THE RUN, LOOPS), in the document's
 * order; above each test stand the document's words. What is refused is looked at in RefusalsTest.
 */
public final class RunEdgesTest {
  private static final int FULL = -2, FINDING = -3, STATE = -4, NONE = -9;
  private static final int NOTHING = 1, BEYOND = 2, NOUGHT = 4;
  private static final int MIN = Integer.MIN_VALUE, MAX = Integer.MAX_VALUE;
  private static int wrong = 0;

  private static void due(String what, long got, long want) {
    if (got != want) {
      wrong++;
      System.out.println(what + ": answered " + got + ", due is " + want);
    }
  }

  private static void dueAsked(String what, HotPipes x, int answer, int wantAnswer, long wantAsked) {
    due(what, answer, wantAnswer);
    due(what + ", asked", x.asked(), wantAsked);
  }

  private static void dueFraction(String what, HotPipes x, int answer, int wantAnswer, long upper, long lower) {
    due(what, answer, wantAnswer);
    due(what + ", upper", x.upper(), upper);
    due(what + ", lower", x.lower(), lower);
  }

  private static void dueFinding(String what, HotPipes x, int answer, int finding) {
    due(what, answer, FINDING);
    due(what + ", finding", x.finding(), finding);
  }

  private static long root(long n) {
    return BigInteger.valueOf(n).sqrt().longValueExact();
  }

  /** STUFF s has just these bytes. */
  private static void row(HotPipes x, int s, int... bytes) {
    x.stuff(s, bytes.length);
    for (int i = 0; i < bytes.length; i++) if (bytes[i] != 0) x.lay(s, i, bytes[i]);
  }

  /** The bytes of a STUFF, told by laying them anew. */
  private static void dueRow(String what, HotPipes x, int s, int... bytes) {
    for (int i = 0; i < bytes.length; i++) due(what + ", byte " + i, x.lay(s, i, bytes[i]), 1000 + bytes[i]);
    dueFinding(what + ", no byte more", x, x.lay(s, bytes.length, 0), BEYOND);
  }

  // ---- promise 1: "No STUFFS, LEGS, RESTS; CASES as at first."

  private static void promise01NewObject() {
    HotPipes x = new HotPipes();
    due("1 asked() before", x.asked(), 0);
    due("1 upper() before", x.upper(), 0);
    due("1 lower() before", x.lower(), 1);
    due("1 finding() before", x.finding(), 0);
    for (int f = 1; f <= 5; f++) due("1 findings(" + f + ") before", x.findings(f), 0);
    for (int what = 0; what <= 5; what++) due("1 count(" + what + ")", x.count(what), 0);
    long h = 17;
    for (int i = 0; i < 6; i++) h = 31 * h;
    for (int c = 0; c < 8; c++) h = ((h * 31) * 31) * 31 + 1;
    for (int s = 0; s < 4; s++) h = (h * 31 + 10) * 31 - 1;
    due("1 digest(): amounts 0, factors 0 and 1, WEIGHTS 10, STUFFS missing", x.digest(), h);
    for (int s = 0; s < 4; s++) dueFinding("1 STUFF " + s + " is missing", x, x.mean(s), NOTHING);
    due("1 no LEGS", x.cut(), STATE);
    dueAsked("1 the one anchor is there", x, x.where(0, 0), 1, 0);
    dueAsked("1 no WORST", x, x.worst(), 0, 0);
    dueFraction("1 nothing USED", x, x.used(), 0, 0, 1);
    due("1 nothing READ", x.missing(0), STATE);
    for (int c = 0; c < 8; c++) for (int d = 0; d < c; d++) due("1 not BARRED", x.bar(c, d, false), 0);
  }

  /** "An object is used for at most 512 calls": the last of them is answered as the first. */
  private static void promise01LastCall() {
    HotPipes x = new HotPipes();
    for (int i = 0; i < 511; i++) due("1 call " + i, x.tear(0), FINDING);
    due("1 call 512", x.findings(NOTHING), 511);
  }

  // ---- promise 2: "A STUFF is there with n bytes 0: n." "rows of 0 to 16 bytes"

  private static void promise02Sizes() {
    for (int s = 0; s < 4; s++) {
      for (int n = 0; n <= 16; n++) {
        HotPipes x = new HotPipes();
        due("2 n " + n, x.stuff(s, n), n);
        dueRow("2 n " + n, x, s, new int[n]);
        for (int other = 0; other < 4; other++) {
          if (other != s) dueFinding("2 the others are missing", x, x.tear(other), NOTHING);
        }
        due("2 it is there", x.tear(s), 1);
      }
    }
  }

  /** Of one that was there already, longer or shorter, nothing stays but the WEIGHT. */
  private static void promise02Anew() {
    for (int was = 0; was <= 16; was += 4) {
      for (int n = 0; n <= 16; n += 4) {
        HotPipes x = new HotPipes();
        x.stuff(2, was);
        for (int i = 0; i < was; i++) x.lay(2, i, 100 + i);
        x.weigh(2, 33);
        due("2 anew", x.stuff(2, n), n);
        dueRow("2 anew, " + was + " to " + n, x, 2, new int[n]);
        due("2 anew, the WEIGHT stays", x.weigh(2, 1), 33);
        x.stuff(2, 16);
        dueRow("2 anew, and 16 again", x, 2, new int[16]);
      }
    }
  }

  // ---- promise 3: "Byte i of a STUFF is v, cut to a byte: what it was, and 1000 more."

  private static void promise03Bytes() {
    int[][] cut = {{127, 127}, {128, -128}, {-128, -128}, {-129, 127}, {255, -1}, {256, 0}, {257, 1}, {383, 127},
      {384, -128}, {-1, -1}, {-255, 1}, {-256, 0}, {-257, -1}, {MAX, -1}, {MIN, 0}, {MAX - 127, -128}, {MIN + 128, -128}};
    HotPipes x = new HotPipes();
    x.stuff(3, 16);
    x.leg(0, 1, 3);
    int was = 0;
    for (int[] c : cut) {
      due("3 what it was, ahead of " + c[0], x.lay(3, 15, c[0]), 1000 + was);
      dueAsked("3 GROWTH of " + c[0], x, x.grown(15, 0), 1, c[1]);
      was = c[1];
    }
    due("3 at last", x.lay(3, 15, 0), 1000 + was);
  }

  private static void promise03EachByte() {
    for (int s = 0; s < 4; s++) {
      HotPipes x = new HotPipes();
      for (int other = 0; other < 4; other++) x.stuff(other, 16);
      for (int i = 0; i < 16; i++) due("3 byte " + i, x.lay(s, i, i - 128), 1000);
      int[] bytes = new int[16];
      for (int i = 0; i < 16; i++) bytes[i] = i - 128;
      for (int other = 0; other < 4; other++) dueRow("3 STUFF " + other, x, other, other == s ? bytes : new int[16]);
    }
  }

  // ---- promise 4: "A STUFF is missing: 1." "(a missing STUFF: 0)" "it stays, if the row is missing"

  private static void promise04Tear() {
    for (int n = 0; n <= 16; n++) {
      HotPipes x = new HotPipes();
      x.stuff(1, n);
      for (int i = 0; i < n; i++) x.lay(1, i, 9);
      x.weigh(1, 50);
      x.leg(4, 6, 1);
      due("4 of " + n + " bytes", x.tear(1), 1);
      dueFinding("4 it is missing", x, x.tear(1), NOTHING);
      dueFinding("4 it has no bytes", x, x.lay(1, 0, 0), NOTHING);
      dueAsked("4 GROWTH is 0", x, x.grown(0, 2), 1, 0);
      due("4 the LEG stays", x.count(1), 6);
      x.rest(0, 3, 0);
      dueFraction("4 the WEIGHT stays", x, x.load(0, 0), 1, 150, 1);
      x.stuff(1, 16);
      dueRow("4 there again, its bytes are 0", x, 1, new int[16]);
      due("4 there again, its WEIGHT", x.weigh(1, 10), 50);
    }
  }

  // ---- promise 5: "n bytes of a STUFF, from one on, come to those of another one (perhaps itself) from one on,
  // as if taken ahead: 1. BEYOND: not so many there (a place, n below 0, too)."

  private static void promise05EachCopy() {
    for (int to = 0; to < 2; to++) {
      for (int i = -1; i <= 6; i++) {
        for (int j = -1; j <= 6; j++) for (int n = -1; n <= 6; n++) promise05OneCopy(to, i, j, n);
      }
    }
  }

  private static void promise05OneCopy(int to, int i, int j, int n) {
    int[][] rows = {{1, 2, 3, 4, 5}, {-6, -7, -8, -9}};
    HotPipes x = new HotPipes();
    for (int s = 0; s < 2; s++) row(x, s, rows[s]);
    String told = "5 copy(0, " + i + ", " + to + ", " + j + ", " + n + ")";
    boolean fits = i >= 0 && j >= 0 && n >= 0 && i + n <= rows[0].length && j + n <= rows[to].length;
    int answer = x.copy(0, i, to, j, n);
    if (fits) {
      due(told, answer, 1);
      int[] taken = rows[0].clone();
      for (int k = 0; k < n; k++) rows[to][j + k] = taken[i + k];
    } else {
      dueFinding(told, x, answer, BEYOND);
    }
    for (int s = 0; s < 2; s++) dueRow(told + ", STUFF " + s, x, s, rows[s]);
  }

  private static void promise05Most() {
    HotPipes x = new HotPipes();
    int[] bytes = {-128, 127, 1, 2, 3, 4, 5, 6, 7, 8, 9, 10, 11, 12, 13, -1};
    row(x, 0, bytes);
    x.stuff(3, 16);
    due("5 all 16", x.copy(0, 0, 3, 0, 16), 1);
    dueRow("5 all 16", x, 3, bytes);
    due("5 all 16 to itself", x.copy(3, 0, 3, 0, 16), 1);
    dueRow("5 all 16 to itself", x, 3, bytes);
    due("5 the last", x.copy(0, 15, 3, 0, 1), 1);
    due("5 the last", x.lay(3, 0, 0), 999);
    due("5 none, at the ends of full rows", x.copy(0, 16, 3, 16, 0), 1);
    x.stuff(1, 0);
    due("5 none, of an empty row", x.copy(1, 0, 0, 0, 0), 1);
    due("5 none, to an empty row", x.copy(0, 0, 1, 0, 0), 1);
    due("5 none, an empty row to itself", x.copy(1, 0, 1, 0, 0), 1);
  }

  // ---- promise 6: "WEIGHT of each unit of a STUFF is w: what it was." "(1 .. 50; 10 at first)"

  private static void promise06Weights() {
    for (int s = 0; s < 4; s++) {
      HotPipes x = new HotPipes();
      x.leg(0, 2, s);
      x.rest(0, 1, 0);
      dueFraction("6 10 at first", x, x.load(0, 0), 1, 10, 1);
      int was = 10;
      for (int w = 1; w <= 50; w++) {
        due("6 what it was, STUFF " + s, x.weigh(s, w), was);
        dueFraction("6 w " + w, x, x.load(0, 0), 1, w, 1);
        was = w;
      }
      due("6 50 and 50 again", x.weigh(s, 50), 50);
      for (int other = 0; other < 4; other++) if (other != s) due("6 the others", x.weigh(other, 1), 10);
      dueFinding("6 it is missing still", x, x.mean(s), NOTHING);
    }
  }

  // ---- promise 7: "The mean GROWTH of a STUFF over its bytes, cut."

  private static void promise07Mean() {
    int[][] rows = {{0}, {-128}, {127}, {1, 0}, {-1, 0}, {-1, -2}, {1, 2}, {-1, -1, 0}, {-128, 127}, {127, 127, -128},
      {-2, -2, -1}, {5, -5, 1}};
    int[] means = {0, -128, 127, 0, 0, -1, 1, 0, 0, 42, -1, 0};
    for (int i = 0; i < rows.length; i++) {
      HotPipes x = new HotPipes();
      row(x, i % 4, rows[i]);
      due("7 mean of row " + i, x.mean(i % 4), means[i]);
    }
    for (int n = 1; n <= 16; n++) {
      HotPipes x = new HotPipes();
      x.stuff(0, n);
      for (int i = 0; i < n; i++) x.lay(0, i, -128);
      due("7 all the least, " + n, x.mean(0), -128);
      x.lay(0, n - 1, n - 1 - 128);
      due("7 just not one more, cut towards 0, " + n, x.mean(0), n == 1 ? -128 : -127);
      for (int i = 0; i < n; i++) x.lay(0, i, 127);
      due("7 all the greatest, " + n, x.mean(0), 127);
    }
    HotPipes x = new HotPipes();
    x.stuff(0, 0);
    dueFinding("7 among none", x, x.mean(0), NOUGHT);
  }

  /** Four full rows: each mean is of its own bytes alone; and none are its own, though all others are full. */
  private static void promise07Full() {
    int[] bytes = {-128, 127, -1, 100};
    for (int empty = -1; empty < 4; empty++) {
      HotPipes x = new HotPipes();
      for (int s = 0; s < 4; s++) {
        x.stuff(s, s == empty ? 0 : 16);
        for (int i = 0; i < 16 && s != empty; i++) x.lay(s, i, bytes[s]);
      }
      for (int s = 0; s < 4; s++) {
        if (s == empty) dueFinding("7 among none, the others full", x, x.mean(s), NOUGHT);
        else due("7 of full rows, STUFF " + s, x.mean(s), bytes[s]);
      }
    }
  }

  // ---- promise 8: "A LEG behind the others: how many there are." "(12 at most)", "WAY 0 .. 5", "1 to 20 units"

  private static void promise08EachLeg() {
    int[][] ends = {{1, 0, 0}, {-1, 0, 0}, {0, 1, 0}, {0, -1, 0}, {0, 0, 1}, {0, 0, -1}};
    for (int way = 0; way < 6; way++) {
      for (int units = 1; units <= 20; units++) {
        HotPipes x = new HotPipes();
        due("8 the first", x.leg(way, units, units % 4), 1);
        due("8 its units", x.count(1), units);
        for (int axis = 0; axis < 3; axis++) {
          dueAsked("8 its end, WAY " + way, x, x.where(units, axis), 1, ends[way][axis] * units);
        }
      }
    }
  }

  private static void promise08Twelve() {
    HotPipes x = new HotPipes();
    for (int i = 1; i <= 12; i++) due("8 LEG " + i, x.leg(0, 20, 3), i);
    due("8 L at most", x.count(1), 240);
    due("8 one more", x.leg(0, 1, 3), FULL);
    due("8 one is cut", x.cut(), 11);
    due("8 room for one", x.leg(2, 1, 0), 12);
    due("8 but for one only", x.leg(2, 1, 0), FULL);
    due("8 L then", x.count(1), 221);
  }

  // ---- promise 9: "The last LEG is taken away: how many there are. STATE: none."

  private static void promise09Cut() {
    HotPipes x = new HotPipes();
    for (int i = 1; i <= 12; i++) x.leg(i % 6, i, i % 4);
    int length = 78;
    for (int i = 12; i >= 1; i--) {
      due("9 cut, " + i + " there", x.cut(), i - 1);
      length -= i;
      due("9 L", x.count(1), length);
    }
    due("9 none", x.cut(), STATE);
    due("9 none still", x.cut(), STATE);
    dueAsked("9 the anchor stays", x, x.where(0, 0), 1, 0);
    due("9 from the begin again", x.leg(4, 3, 0), 1);
    dueAsked("9 from (0, 0, 0) again", x, x.where(3, 2), 1, 3);
  }

  // ---- promise 10: "Where a PLACE is: x, y, z." "PLACES on it: 0 (the one anchor) to L (all units; the other one)"

  private static void promise10EachPlace() {
    HotPipes x = new HotPipes();
    int[][] legs = {{0, 3}, {4, 2}, {3, 4}, {1, 5}, {5, 6}, {2, 1}};
    for (int[] leg : legs) x.leg(leg[0], leg[1], 0);
    int[] at = {0, 0, 0};
    int place = 0;
    for (int axis = 0; axis < 3; axis++) dueAsked("10 PLACE 0", x, x.where(0, axis), 1, 0);
    for (int[] leg : legs) {
      for (int u = 0; u < leg[1]; u++) {
        at[leg[0] / 2] += leg[0] % 2 == 0 ? 1 : -1;
        place++;
        for (int axis = 0; axis < 3; axis++) dueAsked("10 PLACE " + place, x, x.where(place, axis), 1, at[axis]);
      }
    }
    due("10 the last was L", x.count(1), place);
    x = new HotPipes();
    for (int i = 0; i < 12; i++) x.leg(5, 20, 0);
    dueAsked("10 as far as there can be", x, x.where(240, 2), 1, -240);
    dueAsked("10 just ahead of it", x, x.where(239, 2), 1, -239);
  }

  // ---- promise 11: "byte i tells GROWTH at STEP i (0 .. 15) of each unit (none such, or a missing STUFF: 0)"

  private static void promise11Steps() {
    for (int n = 0; n <= 16; n++) {
      HotPipes x = new HotPipes();
      x.stuff(0, n);
      for (int i = 0; i < n; i++) x.lay(0, i, i + 1);
      x.leg(0, 2, 0);
      x.leg(3, 1, 0);
      for (int step = 0; step < 16; step++) {
        int growth = step < n ? step + 1 : 0;
        dueAsked("11 x, " + n + " bytes", x, x.grown(step, 0), 1, 2 * growth);
        dueAsked("11 y, " + n + " bytes", x, x.grown(step, 1), 1, -growth);
        dueAsked("11 z, " + n + " bytes", x, x.grown(step, 2), 1, 0);
      }
    }
  }

  private static void promise11Most() {
    for (int way = 0; way < 6; way++) {
      for (int v : new int[] {-128, -1, 0, 1, 127}) {
        HotPipes x = new HotPipes();
        row(x, 1, v);
        for (int i = 0; i < 12; i++) x.leg(way, 20, 1);
        for (int axis = 0; axis < 3; axis++) {
          int want = axis != way / 2 ? 0 : way % 2 == 0 ? 240 * v : -240 * v;
          dueAsked("11 the most, WAY " + way + ", v " + v, x, x.grown(0, axis), 1, want);
        }
      }
    }
    HotPipes x = new HotPipes();
    for (int axis = 0; axis < 3; axis++) dueAsked("11 no LEGS", x, x.grown(0, axis), 1, 0);
    row(x, 0, 40);
    row(x, 1, 7);
    x.leg(4, 3, 0);
    x.leg(5, 3, 0);
    dueAsked("11 there and back is nothing", x, x.grown(0, 2), 1, 0);
    x.leg(5, 3, 1);
    x.leg(4, 20, 3);
    dueAsked("11 by STUFF", x, x.grown(0, 2), 1, -21);
  }

  // ---- promise 12: "how much z is more there by GROWTH of the units ahead of it"

  private static void promise12EachPlace() {
    HotPipes x = new HotPipes();
    row(x, 0, 0, 5);
    row(x, 1, 0, -3);
    int[][] legs = {{0, 2, 0}, {4, 3, 0}, {2, 2, 0}, {5, 3, 1}, {4, 2, 1}, {5, 4, 0}};
    for (int[] leg : legs) x.leg(leg[0], leg[1], leg[2]);
    int[] moves = {0, 0, 0, 5, 10, 15, 15, 15, 18, 21, 24, 21, 18, 13, 8, 3, -2};
    for (int place = 0; place < moves.length; place++) {
      dueAsked("12 PLACE " + place, x, x.move(place, 1), 1, moves[place]);
      dueAsked("12 cold, PLACE " + place, x, x.move(place, 0), 1, 0);
      dueAsked("12 no such byte, PLACE " + place, x, x.move(place, 15), 1, 0);
    }
    due("12 the last was L", x.count(1), moves.length - 1);
    x = new HotPipes();
    dueAsked("12 no LEGS", x, x.move(0, 0), 1, 0);
    x.stuff(0, 16);
    x.lay(0, 15, -128);
    for (int i = 0; i < 12; i++) x.leg(5, 20, 0);
    dueAsked("12 the most, STEP 15", x, x.move(240, 15), 1, 30720);
    dueAsked("12 just ahead of it", x, x.move(239, 15), 1, 30592);
  }

  // ---- promise 13: "ROOT of n: the greatest whole number of which the square is not above n."

  /** Three LEGS of one unit and of three STUFFS: L is 3, U is ROOT of 3, so 30 times 4 is let. */
  private static void promise13RootOfGrown() {
    for (int a = 0; a <= 12; a++) {
      for (int b = 0; b <= 12; b++) {
        HotPipes x = new HotPipes();
        row(x, 0, -a);
        row(x, 1, b);
        x.stuff(2, 1);
        for (int i = 0; i < 3; i++) x.leg(2 * i, 1, i);
        for (int c = 0; c <= 12; c++) {
          x.lay(2, 0, c);
          long spare = 120 - 9 * root(a * a + b * b + c * c);
          dueAsked("13 GROWN " + a + ", " + b + ", " + c, x, x.soft(0, 9), spare >= 0 ? 1 : 0, spare);
        }
      }
    }
  }

  /** "U: ROOT of the square of how far the ends are apart." Nothing grows: 30 times the square of L less U is let. */
  private static void promise13RootOfApart() {
    for (int a = 0; a <= 20; a++) {
      for (int b = 0; b <= 20; b++) {
        for (int c = a + b == 0 ? 1 : 0; c <= 20; c++) {
          HotPipes x = new HotPipes();
          if (a > 0) x.leg(1, a, 0);
          if (b > 0) x.leg(2, b, 0);
          if (c > 0) x.leg(5, c, 0);
          long slack = a + b + c - root(a * a + b * b + c * c);
          dueAsked("13 apart " + a + ", " + b + ", " + c, x, x.soft(0, 100), 1, 30 * slack * slack);
        }
      }
    }
  }

  /** "is at most": just as much is SOFT, one more is not; for the least and the greatest thickness. */
  private static void promise13JustSoft() {
    HotPipes x = new HotPipes();
    x.stuff(0, 2);
    x.leg(0, 1, 0);
    x.leg(2, 1, 3);
    x.leg(4, 1, 3);
    x.lay(0, 1, 120);
    dueAsked("13 D 1, just", x, x.soft(1, 1), 1, 0);
    x.lay(0, 1, 121);
    dueAsked("13 D 1, one more", x, x.soft(1, 1), 0, -1);
    x.lay(0, 1, 119);
    dueAsked("13 D 1, one less", x, x.soft(1, 1), 1, 1);
    x.lay(0, 1, 1);
    dueAsked("13 D 100", x, x.soft(1, 100), 1, 20);
    x.lay(0, 1, -2);
    dueAsked("13 D 100, shrinking", x, x.soft(1, 100), 0, -80);
    x.lay(0, 1, 2);
    dueAsked("13 D 60, just", x, x.soft(1, 60), 1, 0);
    dueAsked("13 D 61", x, x.soft(1, 61), 0, -2);
    dueAsked("13 cold", x, x.soft(0, 100), 1, 120);
    dueAsked("13 STEP 15", x, x.soft(15, 100), 1, 120);
  }

  private static void promise13Most() {
    HotPipes x = new HotPipes();
    row(x, 0, -128, 0);
    for (int i = 0; i < 12; i++) x.leg(3, 20, 0);
    dueAsked("13 the stiffest", x, x.soft(0, 100), 0, -3072000);
    dueAsked("13 straight and cold: 0 is at most 0", x, x.soft(1, 100), 1, 0);
    x = new HotPipes();
    for (int i = 0; i < 12; i++) x.leg(4 + i % 2, 20, 0);
    dueAsked("13 the ends meet: U is 0", x, x.soft(0, 100), 1, 1728000);
    x = new HotPipes();
    row(x, 0, 127);
    row(x, 1, -128);
    for (int i = 0; i < 12; i++) x.leg(2 * (i % 3), 20, i % 2);
    long each = 40 * (127 - 128);
    long slack = 240 - root(3 * 80 * 80);
    dueAsked("13 three axes", x, x.soft(0, 100), 1, 30 * slack * slack - 100 * root(3 * each * each));
    x = new HotPipes();
    row(x, 0, 0, 127);
    x.leg(0, 1, 0);
    dueAsked("13 one unit", x, x.soft(1, 1), 0, -127);
  }

  // ---- promise 14: "THE LOOP for a LEG: the least d (1 .. 20) with which it is FREE, and THE RUN is SOFT."

  /** "the first third of its units (cut), d units in a WAY across it, the second third (cut), d units back, what is
   * left of it (all of its STUFF)": the run with the LOOP in it is laid as LEGS, and soft() is asked. */
  private static void promise14AsIfLaid() {
    for (int units = 3; units <= 20; units++) {
      for (int which = 0; which < 3; which++) {
        for (int v : new int[] {-128, -60, -1, 0, 1, 7, 40, 127}) promise14OneLaid(units, which, v);
      }
    }
  }

  private static void promise14OneLaid(int units, int which, int v) {
    int[][] legs = {{0, 20, 1}, {2, 7, 2}, {4, 11, 1}};
    legs[which][1] = units;
    legs[which][2] = 0;
    for (int way = 0; way < 6; way++) {
      if (way / 2 == legs[which][0] / 2) continue;
      HotPipes x = laid(legs, v);
      long before = x.digest();
      int out = x.loop(which, way, 0, 50);
      due("14 nothing changes", x.digest(), before);
      // These stairs are in the way of no LOOP that goes back or aside; the others are looked at below.
      boolean aside = way % 2 == 1;
      if (!aside) continue;
      for (int d = 1; d <= 20; d++) {
        HotPipes y = laid(looped(legs, which, way, d), v);
        due("14 the ends stay", y.where(y.count(1), 0) * y.asked(), x.where(x.count(1), 0) * x.asked());
        due("14 L is 2 d more", y.count(1), x.count(1) + 2 * d);
        int soft = y.soft(0, 50);
        if (out == NONE || d < out) due("14 laid with " + d + ", units " + units + ", v " + v, soft, 0);
        if (d == out) due("14 laid with THE LOOP " + d + ", units " + units + ", v " + v, soft, 1);
      }
    }
  }

  private static HotPipes laid(int[][] legs, int v) {
    HotPipes x = new HotPipes();
    row(x, 0, v);
    row(x, 1, 90);
    row(x, 2, -50);
    for (int[] leg : legs) x.leg(leg[0], leg[1], leg[2]);
    return x;
  }

  private static int[][] looped(int[][] legs, int which, int way, int d) {
    int[][] all = new int[legs.length + 4][];
    int n = 0;
    for (int i = 0; i < legs.length; i++) {
      int own = legs[i][0], units = legs[i][1], stuff = legs[i][2], third = units / 3;
      if (i != which) {
        all[n++] = legs[i];
      } else {
        int[][] parts = {{own, third, stuff}, {way, d, stuff}, {own, third, stuff}, {way ^ 1, d, stuff},
          {own, units - 2 * third, stuff}};
        for (int[] part : parts) all[n++] = part;
      }
    }
    return all;
  }

  /** One straight LEG: a LOOP of d lets 30 times 4 d d, for each d from 1 to 20, and no more. */
  private static void promise14EachLeast() {
    for (int d = 1; d <= 21; d++) {
      // The least d is wanted, if what is there is above what d - 1 lets, and at most what d lets.
      long[] wanted = {120L * (d - 1) * (d - 1) + 1, 120L * d * d};
      for (int thickness = 1; thickness <= 100; thickness++) {
        for (int grown : new int[] {(int) (-Math.floorDiv(-wanted[0], thickness)), (int) (wanted[1] / thickness)}) {
          long there = (long) thickness * grown;
          if (there < wanted[0] || there > wanted[1] || grown > 127 * 3) continue;
          HotPipes x = new HotPipes();
          row(x, 0, grown / 3 + (grown % 3 > 0 ? 1 : 0));
          row(x, 1, grown / 3 + (grown % 3 > 1 ? 1 : 0));
          row(x, 2, grown / 3);
          for (int s = 0; s < 3; s++) x.leg(4, 1, s);
          x.leg(4, 3, 3);
          due("14 least d " + d + ", D " + thickness, x.loop(3, 1, 0, thickness), d > 20 ? NONE : d);
        }
      }
    }
  }

  private static void promise14LeastAndMost() {
    for (int units = 3; units <= 20; units++) {
      for (int own = 0; own < 6; own++) {
        HotPipes x = new HotPipes();
        x.stuff(0, 16);
        x.leg(own, units, 0);
        for (int way = 0; way < 6; way++) {
          if (way / 2 != own / 2) due("14 across, units " + units, x.loop(0, way, 15, 100), 1);
        }
      }
    }
    HotPipes x = new HotPipes();
    for (int i = 0; i < 12; i++) x.leg(i % 2 * 2, 20, 0);
    for (int leg = 0; leg < 12; leg++) due("14 of 12 LEGS, LEG " + leg, x.loop(leg, 5, 0, 1), 1);
  }

  private static void promise14NothingIsTold() {
    HotPipes x = new HotPipes();
    row(x, 0, 30);
    x.leg(0, 12, 0);
    x.leg(2, 12, 0);
    x.rest(2, 5, 30);
    x.where(7, 0);
    x.load(0, 0);
    dueAsked("14 asked() stays", x, x.loop(0, 4, 0, 60), 12, 7);
    dueFraction("14 upper(), lower() stay", x, x.loop(0, 4, 0, 100), 17, 120, 1);
    due("14 no FINDING", x.finding(), 0);
  }

  // ---- "It is FREE, if no new whole point of it (those d away or less, but 0) is a whole point of THE RUN."

  /** One LEG that may be looped; THE RUN begins or ends just at one point of the plane of its LOOPS. */
  private record Plane(int own, int out, int units, int along, int away, boolean atEnd) {
    private static final int LEAD = 20;

    /** STUFF 1 is that of a long straight LEG, the only one that grows. */
    HotPipes laid() {
      HotPipes x = new HotPipes();
      x.stuff(1, 1);
      int side = 2 * (3 - own / 2 - out / 2);
      if (atEnd) {
        x.leg(own, LEAD, 1);
        x.leg(own, units, 0);
        x.leg(side, 1, 0);
        lay(x, out, away);
        lay(x, own, along - units);
        x.leg(side + 1, 1, 0);
      } else {
        x.leg(side, 1, 0);
        lay(x, own, -along);
        lay(x, out, -away);
        x.leg(side + 1, 1, 0);
        x.leg(own, units, 0);
        x.leg(own, LEAD, 1);
      }
      return x;
    }

    /** A LEG in a WAY, or back, or none; in two parts, if it is too long for one. */
    private static void lay(HotPipes x, int way, int units) {
      int n = Math.abs(units);
      int towards = units < 0 ? way ^ 1 : way;
      if (n > 20) x.leg(towards, n - 20, 0);
      if (n > 0) x.leg(towards, Math.min(n, 20), 0);
    }

    int leg(HotPipes x) {
      return atEnd ? 1 : x.count(0) - 2;
    }

    boolean meets(int d) {
      int third = units / 3;
      boolean foot = along == third || along == 2 * third;
      boolean between = along > third && along < 2 * third;
      return away >= 1 && (foot ? away <= d : between && away == d);
    }
  }

  private static void promise14Free() {
    // 32 and more are far beyond any LOOP: a row of bits in an int would wrap around there.
    int[] aways = {-2, -1, 1, 2, 3, 19, 20, 21, 31, 32, 33, 34, 40};
    for (int own = 0; own < 6; own++) {
      for (int out = 0; out < 6; out++) {
        if (own / 2 == out / 2) continue;
        for (int units : new int[] {3, 5, 6, 8, 10, 20}) {
          for (int along = -1; along <= units + 1; along++) {
            for (int away : aways) {
              promise14OnePlane(new Plane(own, out, units, along, away, true));
              promise14OnePlane(new Plane(own, out, units, along, away, false));
            }
          }
        }
      }
    }
  }

  /** For each d, growth is laid so that it is the first that makes THE RUN SOFT. */
  private static void promise14OnePlane(Plane plane) {
    HotPipes x = plane.laid();
    int length = x.count(1);
    long apart = 0;
    for (int axis = 0; axis < 3; axis++) {
      x.where(length, axis);
      apart += (long) x.asked() * x.asked();
    }
    long slack = length - root(apart);
    int leg = plane.leg(x);
    for (int first = 1; first <= 21; first++) {
      int[] growth = growthFor(30 * square(slack + 2 * first - 2), 30 * square(slack + 2 * first), first == 1);
      if (growth == null) continue;
      x.lay(1, 0, growth[0]);
      int want = NONE;
      for (int d = 20; d >= first; d--) if (!plane.meets(d)) want = d;
      int got = x.loop(leg, plane.out, 0, growth[1]);
      if (got != want) due("14 " + plane + ", SOFT from " + first, got, want);
    }
  }

  private static long square(long v) {
    return v * v;
  }

  /** GROWTH v and thickness D, so that D times v times 20 is above the one and at most the other; null: none. */
  private static int[] growthFor(long above, long atMost, boolean anyLess) {
    if (anyLess) return new int[] {0, 1};
    for (int v = 127; v >= 1; v--) {
      long d = Math.min(100, atMost / (20L * v));
      if (d >= 1 && 20L * v * d > above) return new int[] {v, (int) d};
    }
    return null;
  }

  // ---- promise 15: "The LEG with THE LOOP of the least d (of alike ones the least LEG, then the least WAY);
  // d and 100 times the WAY by asked(); NONE: no LEG has one."

  private static void promise15Alike() {
    int[] leastWays = {2, 2, 0, 0, 0, 0};
    for (int own = 0; own < 6; own++) {
      HotPipes x = new HotPipes();
      x.leg(own, 3, 0);
      dueAsked("15 the least WAY across " + own, x, x.bestLoop(0, 100), 0, 1 + 100 * leastWays[own]);
    }
    HotPipes x = new HotPipes();
    x.leg(0, 2, 0);
    x.leg(2, 1, 0);
    x.leg(0, 3, 0);
    x.leg(0, 20, 0);
    dueAsked("15 the least LEG that may have one", x, x.bestLoop(15, 1), 2, 201);
  }

  private static void lay(HotPipes x, int[]... legs) {
    for (int[] leg : legs) x.leg(leg[0], leg[1], 0);
  }

  /** The run goes round its LEG 0 and closes one WAY across it after the other, just beside it. */
  private static void promise15ClosedIn() {
    HotPipes x = new HotPipes();
    lay(x, new int[] {0, 3});
    dueAsked("15 all WAYS are open", x, x.bestLoop(0, 1), 0, 201);
    lay(x, new int[] {2, 1}, new int[] {1, 2});
    dueAsked("15 WAY 2 is closed", x, x.bestLoop(0, 1), 0, 301);
    lay(x, new int[] {4, 1}, new int[] {3, 2});
    dueAsked("15 WAYS 2 and 4 are closed", x, x.bestLoop(0, 1), 0, 301);
    lay(x, new int[] {5, 1});
    dueAsked("15 all but WAY 5 are closed", x, x.bestLoop(0, 1), 0, 501);
    lay(x, new int[] {5, 1}, new int[] {2, 1});
    dueAsked("15 all are closed", x, x.bestLoop(0, 1), NONE, 501);
    lay(x, new int[] {5, 3});
    dueAsked("15 another LEG has one", x, x.bestLoop(0, 1), 8, 1);
  }

  /** All LOOPS of LEG 0 with d 1 meet the run in their middle; a later LEG has one with d 1. */
  private static void promise15LaterIsBetter() {
    HotPipes x = new HotPipes();
    lay(x, new int[] {0, 6}, new int[] {2, 2}, new int[] {1, 3}, new int[] {3, 1}, new int[] {4, 1}, new int[] {3, 2},
        new int[] {5, 2}, new int[] {2, 1}, new int[] {5, 6});
    int[] outs = {NONE, 2, 2, 8};
    for (int way = 2; way < 6; way++) due("15 LEG 0, WAY " + way, x.loop(0, way, 0, 1), outs[way - 2]);
    dueAsked("15 the least d goes ahead of the least LEG", x, x.bestLoop(0, 1), 2, 201);
  }

  /** Two LEGS back and forth, so far apart: what bestLoop() answers is the best of all that loop() answers. */
  private static void promise15Compared() {
    for (int away = 1; away <= 6; away++) {
      for (int v = 0; v <= 127; v += 3) {
        HotPipes x = new HotPipes();
        row(x, 0, v);
        lay(x, new int[] {0, 9}, new int[] {4, away}, new int[] {1, 9}, new int[] {2, 2}, new int[] {5, 2 * away},
            new int[] {0, 9}, new int[] {3, 4}, new int[] {1, 9});
        int best = NONE, asked = x.asked(), least = 21;
        for (int leg = 0; leg < x.count(0); leg++) {
          for (int way = 0; way < 6; way++) {
            int out = x.loop(leg, way, 0, 100);
            if (out >= 1 && out < least) {
              best = leg;
              least = out;
              asked = out + 100 * way;
            }
          }
        }
        dueAsked("15 away " + away + ", v " + v, x, x.bestLoop(0, 100), best, asked);
      }
    }
  }

  private static void promise15LeastAndMost() {
    HotPipes x = new HotPipes();
    x.stuff(0, 1);
    x.leg(0, 10, 0);
    x.where(3, 0);
    x.lay(0, 0, 48);
    dueAsked("15 d 20", x, x.bestLoop(0, 100), 0, 220);
    x.where(3, 0);
    x.lay(0, 0, 49);
    dueAsked("15 NONE: d would be 21", x, x.bestLoop(0, 100), NONE, 3);
    dueAsked("15 a thickness less", x, x.bestLoop(0, 97), 0, 220);
    x.lay(0, 0, 127);
    dueAsked("15 D 1", x, x.bestLoop(0, 1), 0, 204);
    dueAsked("15 STEP 15", x, x.bestLoop(15, 100), 0, 201);
    x = new HotPipes();
    for (int i = 0; i < 12; i++) x.leg(2 * (i % 3), 2, 0);
    x.where(3, 0);
    dueAsked("15 NONE: all have 2 units", x, x.bestLoop(0, 1), NONE, 2);
    x.cut();
    x.leg(4, 3, 0);
    dueAsked("15 the last of 12 LEGS", x, x.bestLoop(0, 1), 11, 1);
    due("15 nothing changes", x.count(0) * 1000 + x.count(1), 12025);
  }

  public static void main(String[] args) {
    promise01NewObject();
    promise01LastCall();
    promise02Sizes();
    promise02Anew();
    promise03Bytes();
    promise03EachByte();
    promise04Tear();
    promise05EachCopy();
    promise05Most();
    promise06Weights();
    promise07Mean();
    promise07Full();
    promise08EachLeg();
    promise08Twelve();
    promise09Cut();
    promise10EachPlace();
    promise11Steps();
    promise11Most();
    promise12EachPlace();
    promise13RootOfGrown();
    promise13RootOfApart();
    promise13JustSoft();
    promise13Most();
    promise14AsIfLaid();
    promise14EachLeast();
    promise14LeastAndMost();
    promise14NothingIsTold();
    promise14Free();
    promise15Alike();
    promise15ClosedIn();
    promise15LaterIsBetter();
    promise15Compared();
    promise15LeastAndMost();
    System.out.println(wrong == 0 ? "stuffs and the run keep their boundaries" : wrong + " answers are not as due");
    if (wrong != 0) System.exit(1);
  }
}
