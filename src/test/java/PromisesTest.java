/** Each promise of the document by itself: ordinary inputs, the edges that it names, wrong inputs. */
public final class PromisesTest {
  private static final int BAD = -1, FULL = -2, FINDING = -3, STATE = -4, NONE = -9;
  private static final int NOTHING = 1, BEYOND = 2, UNLIKE = 3, NOUGHT = 4, SIZE = 5;
  private static final int[] OUTSIDE = {Integer.MIN_VALUE, -1, Integer.MAX_VALUE};
  private static int wrong = 0;

  private static void due(String what, long got, long want) {
    if (got != want) {
      wrong++;
      System.out.println(what + ": answered " + got + ", due is " + want);
    }
  }

  private static void dueAsked(String what, HotPipes x, int answer, int wantAnswer, int wantAsked) {
    due(what, answer, wantAnswer);
    due(what + ", asked", x.asked(), wantAsked);
  }

  private static void dueFraction(String what, HotPipes x, int answer, int wantAnswer, long upper, long lower) {
    due(what, answer, wantAnswer);
    due(what + ", upper", x.upper(), upper);
    due(what + ", lower", x.lower(), lower);
  }

  private static void dueFinding(String what, HotPipes x, int times, int answer, int finding) {
    due(what, answer, FINDING);
    due(what + ", finding", x.finding(), finding);
    due(what + ", findings", x.findings(finding), times);
  }

  /** Three legs: 12 units along x, 6 up, 9 along y, of STUFF 0 that grows 0, 10, 25, 60. */
  private static HotPipes bent() {
    HotPipes x = new HotPipes();
    x.stuff(0, 4);
    x.lay(0, 1, 10);
    x.lay(0, 2, 25);
    x.lay(0, 3, 60);
    x.leg(0, 12, 0);
    x.leg(4, 6, 0);
    x.leg(2, 9, 0);
    return x;
  }

  private static void constants() {
    due("BAD", HotPipes.BAD, BAD);
    due("FULL", HotPipes.FULL, FULL);
    due("FINDING", HotPipes.FINDING, FINDING);
    due("STATE", HotPipes.STATE, STATE);
    due("NONE", HotPipes.NONE, NONE);
  }

  private static void promise01NewObject() {
    HotPipes x = new HotPipes();
    for (int what = 0; what <= 5; what++) due("1 count " + what, x.count(what), 0);
    for (int s = 0; s < 4; s++) {
      due("1 a stuff is missing", x.tear(s), FINDING);
      due("1 weight at first", x.weigh(s, 1), 10);
    }
    due("1 no rest", x.told(0, 0), BAD);
    due("1 worst of the first cases", x.worst(), 0);
    due("1 asked", x.asked(), 0);
    due("1 upper", x.upper(), 0);
    due("1 lower", x.lower(), 1);
    HotPipes y = new HotPipes();
    y.stuff(0, 1);
    y.leg(0, 1, 0);
    due("1 objects are apart", new HotPipes().count(0), 0);
  }

  private static void promise02Stuff() {
    HotPipes x = new HotPipes();
    due("2 none", x.stuff(0, 0), 0);
    due("2 sixteen", x.stuff(3, 16), 16);
    due("2 seventeen", x.stuff(3, 17), BAD);
    for (int s : new int[] {-1, 4}) due("2 no stuff", x.stuff(s, 1), BAD);
    due("2 no stuff comes first", x.stuff(4, -1), BAD);
    due("2 BAD is no finding", x.finding(), 0);
    dueFinding("2 fewer than none", x, 1, x.stuff(0, -1), SIZE);
    dueFinding("2 far fewer", x, 2, x.stuff(0, Integer.MIN_VALUE), SIZE);
    due("2 refused changes nothing", x.mean(3), 0);
    x.lay(3, 2, 9);
    x.weigh(3, 7);
    due("2 anew", x.stuff(3, 3), 3);
    due("2 anew the bytes are 0", x.lay(3, 2, 0), 1000);
    due("2 the weight stays", x.weigh(3, 8), 7);
    x.lay(3, 0, 4);
    x.lay(3, 2, 5);
    x.stuff(3, 1);
    due("2 the first byte, too", x.lay(3, 0, 0), 1000);
    x.stuff(3, 3);
    due("2 shorter and longer again", x.lay(3, 2, 0), 1000);
  }

  private static void promise03Lay() {
    HotPipes x = new HotPipes();
    x.stuff(1, 3);
    due("3 first", x.lay(1, 2, 127), 1000);
    due("3 what it was", x.lay(1, 2, 128), 1127);
    due("3 cut to a byte", x.lay(1, 2, -129), 872);
    due("3 cut from below", x.lay(1, 2, 256), 1127);
    due("3 cut to 0", x.lay(1, 2, 0), 1000);
    dueFinding("3 behind", x, 1, x.lay(1, 3, 1), BEYOND);
    dueFinding("3 ahead", x, 2, x.lay(1, -1, 1), BEYOND);
    dueFinding("3 far behind", x, 3, x.lay(1, Integer.MAX_VALUE, 1), BEYOND);
    dueFinding("3 far ahead", x, 4, x.lay(1, Integer.MIN_VALUE, 1), BEYOND);
    dueFinding("3 missing, also at a place there is not", x, 1, x.lay(2, 99, 1), NOTHING);
    for (int s : new int[] {-1, 4}) due("3 no stuff", x.lay(s, 0, 1), BAD);
    due("3 rows are apart", x.stuff(2, 16) + x.lay(2, 15, 6) - x.lay(1, 0, 0), 16);
  }

  private static void promise04Tear() {
    HotPipes x = new HotPipes();
    dueFinding("4 missing", x, 1, x.tear(0), NOTHING);
    x.stuff(0, 2);
    x.lay(0, 0, 40);
    x.leg(0, 5, 0);
    x.weigh(0, 20);
    due("4 there", x.tear(0), 1);
    dueFinding("4 twice", x, 2, x.tear(0), NOTHING);
    dueAsked("4 no growth", x, x.grown(0, 0), 1, 0);
    due("4 the weight stays", x.weigh(0, 20), 20);
    for (int s : new int[] {-1, 4}) due("4 no stuff", x.tear(s), BAD);
  }

  private static void promise05Copy() {
    HotPipes x = new HotPipes();
    x.stuff(0, 5);
    for (int i = 0; i < 5; i++) x.lay(0, i, i + 1);
    due("5 up in itself", x.copy(0, 0, 0, 1, 4), 1);
    int[] up = {1, 1, 2, 3, 4};
    for (int i = 0; i < 5; i++) due("5 up, byte " + i, x.lay(0, i, i + 1), 1000 + up[i]);
    due("5 down in itself", x.copy(0, 2, 0, 0, 3), 1);
    int[] down = {3, 4, 5, 4, 5};
    for (int i = 0; i < 5; i++) due("5 down, byte " + i, x.lay(0, i, -1), 1000 + down[i]);
    x.stuff(3, 2);
    due("5 to another", x.copy(0, 3, 3, 0, 2), 1);
    due("5 there", x.lay(3, 1, 0), 999);
    due("5 none, at the ends", x.copy(0, 5, 3, 2, 0), 1);
    int n = 0;
    dueFinding("5 too many to take", x, ++n, x.copy(0, 3, 0, 0, 3), BEYOND);
    dueFinding("5 too many to put", x, ++n, x.copy(0, 0, 3, 1, 2), BEYOND);
    dueFinding("5 fewer than none", x, ++n, x.copy(0, 0, 3, 0, -1), BEYOND);
    dueFinding("5 none behind the end", x, ++n, x.copy(0, 6, 3, 0, 0), BEYOND);
    dueFinding("5 none behind the other end", x, ++n, x.copy(0, 0, 3, 3, 0), BEYOND);
    dueFinding("5 from below 0", x, ++n, x.copy(0, -1, 3, 0, 1), BEYOND);
    dueFinding("5 to below 0", x, ++n, x.copy(0, 0, 3, -1, 1), BEYOND);
    dueFinding("5 sums that wrap", x, ++n, x.copy(0, 1, 3, 1, Integer.MAX_VALUE), BEYOND);
    dueFinding("5 places that wrap", x, ++n, x.copy(0, Integer.MAX_VALUE, 3, Integer.MAX_VALUE, 1), BEYOND);
    dueFinding("5 from a missing one", x, 1, x.copy(1, 0, 0, 0, -1), NOTHING);
    dueFinding("5 to a missing one", x, 2, x.copy(0, 9, 1, 0, 1), NOTHING);
    due("5 no stuff to take from", x.copy(4, 0, 1, 0, 1), BAD);
    due("5 no stuff to put to", x.copy(1, 0, -1, 0, 1), BAD);
  }

  private static void promise06Weigh() {
    HotPipes x = new HotPipes();
    due("6 of a missing one", x.weigh(2, 1), 10);
    due("6 what it was", x.weigh(2, 50), 1);
    for (int w : new int[] {0, 51, -1}) due("6 no weight", x.weigh(2, w), BAD);
    for (int s : new int[] {-1, 4}) due("6 no stuff", x.weigh(s, 10), BAD);
    due("6 refused changes nothing", x.weigh(2, 10), 50);
    due("6 others stay", x.weigh(1, 10), 10);
  }

  private static void promise07Mean() {
    HotPipes x = new HotPipes();
    x.stuff(0, 3);
    x.lay(0, 0, 5);
    x.lay(0, 1, 3);
    due("7 cut", x.mean(0), 2);
    x.lay(0, 0, -5);
    x.lay(0, 1, -3);
    due("7 cut towards 0", x.mean(0), -2);
    x.stuff(1, 1);
    x.lay(1, 0, 6);
    due("7 of one", x.mean(1), 6);
    x.stuff(1, 0);
    dueFinding("7 among none", x, 1, x.mean(1), NOUGHT);
    dueFinding("7 missing", x, 1, x.mean(2), NOTHING);
    for (int s : new int[] {-1, 4}) due("7 no stuff", x.mean(s), BAD);
    x.stuff(2, 16);
    for (int i = 0; i < 16; i++) x.lay(2, i, -128);
    due("7 the least", x.mean(2), -128);
  }

  private static void promise08Leg() {
    HotPipes x = new HotPipes();
    due("8 of a missing stuff", x.leg(5, 20, 3), 1);
    due("8 second", x.leg(0, 1, 0), 2);
    for (int way : new int[] {-1, 6}) due("8 no way", x.leg(way, 1, 0), BAD);
    for (int units : new int[] {0, 21}) due("8 units", x.leg(0, units, 0), BAD);
    for (int s : new int[] {-1, 4}) due("8 no stuff", x.leg(0, 1, s), BAD);
    due("8 units in all", x.count(1), 21);
    for (int i = 3; i <= 12; i++) due("8 up to twelve", x.leg(2, 1, 0), i);
    due("8 thirteen", x.leg(2, 1, 0), FULL);
    due("8 BAD ahead of FULL", x.leg(2, 0, 0), BAD);
    due("8 refused changes nothing", x.count(0) * 100 + x.count(1), 1231);
  }

  private static void promise09Cut() {
    HotPipes x = new HotPipes();
    due("9 none", x.cut(), STATE);
    x.leg(0, 4, 0);
    x.leg(2, 7, 0);
    due("9 the last", x.cut(), 1);
    due("9 its units", x.count(1), 4);
    dueAsked("9 the end", x, x.where(4, 0), 1, 4);
    due("9 the first", x.cut(), 0);
    due("9 none again", x.cut(), STATE);
    due("9 a leg again", x.leg(4, 2, 0), 1);
  }

  private static void promise10Where() {
    HotPipes x = new HotPipes();
    dueAsked("10 the anchor of no run", x, x.where(0, 2), 1, 0);
    due("10 behind no run", x.where(1, 0), BAD);
    int[] ends = {0, 0, 0};
    int place = 0;
    for (int way = 0; way < 6; way++) {
      x.leg(way, 10 + 3 * (way % 2), 0);
      place += 10 + 3 * (way % 2);
      ends[way / 2] += way % 2 == 0 ? 10 : -13;
      for (int what = 0; what < 3; what++) dueAsked("10 way " + way, x, x.where(place, what), 1, ends[what]);
    }
    dueAsked("10 within a leg", x, x.where(14, 0), 1, 6);
    dueAsked("10 a corner", x, x.where(10, 0), 1, 10);
    for (int p : new int[] {-1, place + 1}) due("10 no place", x.where(p, 0), BAD);
    for (int what : new int[] {-1, 3}) due("10 no axis", x.where(0, what), BAD);
    due("10 refused leaves asked", x.asked(), 10);
  }

  private static void promise11Grown() {
    HotPipes x = bent();
    dueAsked("11 x", x, x.grown(2, 0), 1, 300);
    dueAsked("11 y", x, x.grown(2, 1), 1, 225);
    dueAsked("11 z", x, x.grown(2, 2), 1, 150);
    dueAsked("11 no such byte", x, x.grown(4, 0), 1, 0);
    x.stuff(1, 3);
    x.lay(1, 2, -7);
    x.leg(1, 5, 1);
    dueAsked("11 back, shrinking", x, x.grown(2, 0), 1, 335);
    for (int step : new int[] {-1, 16}) due("11 no step", x.grown(step, 0), BAD);
    for (int what : new int[] {-1, 3}) due("11 no axis", x.grown(0, what), BAD);
    x = new HotPipes();
    dueAsked("11 no legs", x, x.grown(15, 2), 1, 0);
  }

  private static void promise12Move() {
    HotPipes x = bent();
    dueAsked("12 the anchor", x, x.move(0, 2), 1, 0);
    dueAsked("12 ahead of the rise", x, x.move(12, 2), 1, 0);
    dueAsked("12 in the rise", x, x.move(13, 2), 1, 25);
    dueAsked("12 behind it", x, x.move(27, 2), 1, 150);
    x.leg(5, 4, 0);
    dueAsked("12 down again", x, x.move(31, 3), 1, 120);
    for (int p : new int[] {-1, 32}) due("12 no place", x.move(p, 0), BAD);
    for (int step : new int[] {-1, 16}) due("12 no step", x.move(0, step), BAD);
    due("12 refused leaves asked", x.asked(), 120);
  }

  private static void promise13Soft() {
    HotPipes x = bent();
    dueAsked("13 soft", x, x.soft(1, 10), 1, 2020);
    dueAsked("13 not", x, x.soft(3, 60), 0, -54510);
    dueAsked("13 no growth", x, x.soft(0, 100), 1, 3630);
    for (int d : new int[] {0, 101}) due("13 thickness", x.soft(1, d), BAD);
    for (int step : new int[] {-1, 16}) due("13 no step", x.soft(step, 1), BAD);
    due("13 refused leaves asked", x.asked(), 3630);
    x = new HotPipes();
    due("13 no legs", x.soft(0, 1), STATE);
    due("13 BAD ahead of STATE", x.soft(0, 0), BAD);
    x.leg(0, 20, 0);
    dueAsked("13 just soft", x, x.soft(0, 100), 1, 0);
    x.stuff(0, 1);
    x.lay(0, 0, 1);
    dueAsked("13 just not", x, x.soft(0, 1), 0, -20);
    x.lay(0, 0, -1);
    dueAsked("13 shrinking is as stiff", x, x.soft(0, 1), 0, -20);
    x = new HotPipes();
    x.stuff(0, 1);
    x.lay(0, 0, 1);
    x.leg(0, 1, 0);
    dueAsked("13 by one", x, x.soft(0, 1), 0, -1);
  }

  private static void promise14Loop() {
    HotPipes x = bent();
    due("14 up", x.loop(0, 4, 3, 60), 17);
    due("14 nothing changes", x.count(0) * 1000 + x.count(1), 3027);
    due("14 asked stays", x.asked(), 0);
    for (int way : new int[] {0, 1}) due("14 along it", x.loop(0, way, 3, 60), BAD);
    for (int way : new int[] {-1, 6}) due("14 no way", x.loop(0, way, 3, 60), BAD);
    for (int leg : new int[] {-1, 3}) due("14 no leg", x.loop(leg, 4, 3, 60), BAD);
    for (int step : new int[] {-1, 16}) due("14 no step", x.loop(0, 4, step, 60), BAD);
    for (int d : new int[] {0, 101}) due("14 thickness", x.loop(0, 4, 3, d), BAD);
    due("14 soft already", x.loop(0, 4, 0, 1), 1);
    due("14 none does", stiff().loop(0, 2, 0, 100), NONE);
    due("14 no legs", new HotPipes().loop(0, 0, 0, 1), BAD);
    x.leg(0, 2, 0);
    due("14 too short", x.loop(3, 2, 3, 60), STATE);
    due("14 BAD ahead of STATE", x.loop(3, 0, 3, 60), BAD);
    x.leg(2, 3, 0);
    due("14 just long enough", x.loop(4, 0, 0, 1), 1);
  }

  /** One straight leg of 10 units: a loop of d lets 30 * 4 d d. */
  private static void promise14Limits() {
    HotPipes x = new HotPipes();
    x.stuff(0, 1);
    x.leg(0, 10, 0);
    x.lay(0, 0, 12);
    due("14 just let", x.loop(0, 2, 0, 1), 1);
    x.lay(0, 0, 13);
    due("14 just not let", x.loop(0, 2, 0, 1), 2);
    x.lay(0, 0, 48);
    due("14 the longest", x.loop(0, 2, 0, 100), 20);
    dueAsked("14 the longest is the best", x, x.bestLoop(0, 100), 0, 220);
    x.lay(0, 0, 49);
    due("14 too long", x.loop(0, 2, 0, 100), NONE);
    due("14 too long for all", x.bestLoop(0, 100), NONE);
  }

  /** The run comes back and crosses over LEG 0, two above it, so many units from its begin. */
  private static HotPipes crossed(int way, int units, int over) {
    HotPipes x = new HotPipes();
    x.stuff(0, 1);
    x.leg(way, units, 0);
    x.leg(2, 3, 0);
    x.leg(4, 2, 0);
    if (units > over) x.leg(way ^ 1, units - over, 0);
    x.leg(3, 6, 0);
    return x;
  }

  private static void promise14Feet() {
    for (int way = 0; way < 2; way++) {
      for (int units = 3; units <= 14; units++) {
        int third = units / 3;
        for (int over = -1; over <= units; over++) {
          boolean foot = over == third || over == 2 * third;
          boolean middle = over > third && over < 2 * third;
          HotPipes x = crossed(way, units, over);
          for (int v = 0; v <= 127; v++) {
            x.lay(0, 0, v);
            int free = x.loop(0, 5, 0, 100);
            int want = foot && free > 1 ? NONE : middle && free == 2 ? 3 : free;
            due("14 feet " + way + ", " + units + ", " + over + ", " + v, x.loop(0, 4, 0, 100), want);
          }
        }
      }
    }
  }

  /** So long and straight that no loop makes it soft. */
  private static HotPipes stiff() {
    HotPipes x = new HotPipes();
    x.stuff(0, 1);
    x.lay(0, 0, 127);
    for (int i = 0; i < 12; i++) x.leg(0, 20, 0);
    return x;
  }

  /** LEG 0 goes 9 along x; then the run comes back above it, at the height of 2. */
  private static HotPipes roofed(int back) {
    HotPipes x = new HotPipes();
    x.leg(0, 9, 0);
    x.leg(4, 2, 0);
    x.leg(1, back, 0);
    return x;
  }

  private static void promise14Free() {
    due("14 below a roof", roofed(9).loop(0, 4, 0, 1), 1);
    HotPipes x = grownRoof(9);
    due("14 through the roof", x.loop(0, 4, 0, 100), NONE);
    due("14 away from it", x.loop(0, 5, 0, 100), 2);
    due("14 beside it", x.loop(0, 2, 0, 100), 2);
    // This roof ends at 5 of x, between the feet at 3 and 6.
    x = grownRoof(4);
    due("14 the far foot meets it", x.loop(0, 4, 0, 100), NONE);
    due("14 a shorter one is free", x.loop(0, 4, 0, 1), 1);
    midRoof();
    x = new HotPipes();
    x.leg(0, 9, 0);
    x.leg(4, 1, 0);
    x.leg(1, 9, 0);
    due("14 no room for 1", x.loop(0, 4, 0, 1), NONE);
    due("14 none from above", x.loop(2, 5, 0, 1), NONE);
    due("14 room above", x.loop(2, 4, 0, 1), 1);
  }

  /** As roofed, with growth for which thickness 100 wants a loop of 2. */
  private static HotPipes grownRoof(int back) {
    HotPipes x = roofed(back);
    x.stuff(0, 1);
    int want = 0;
    for (int v = 1; v <= 127 && want == 0; v++) {
      x.lay(0, 0, v);
      if (x.loop(0, 5, 0, 100) == 2) want = v;
    }
    due("14 there is such a growth", want > 0 ? 1 : 0, 1);
    return x;
  }

  /** The run crosses, at the height of 2, just above the middle of LEG 0: only a loop of 2 meets it. */
  private static void midRoof() {
    HotPipes x = new HotPipes();
    x.leg(0, 12, 0);
    x.leg(2, 3, 0);
    x.leg(4, 2, 0);
    x.leg(1, 6, 0);
    x.leg(3, 6, 0);
    x.stuff(0, 1);
    due("14 middle, soft with 1", x.loop(0, 4, 0, 1), 1);
    int last = 0;
    boolean jumped = false;
    for (int v = 0; v <= 127; v++) {
      x.lay(0, 0, v);
      int up = x.loop(0, 4, 0, 100);
      int down = x.loop(0, 5, 0, 100);
      due("14 middle, growth " + v, up, down == 2 ? 3 : down);
      jumped |= down == 2;
      last = Math.max(last, up);
    }
    due("14 middle, 2 was wanted", jumped ? 1 : 0, 1);
    due("14 middle, beyond it", last > 3 ? 1 : 0, 1);
  }

  private static void promise15BestLoop() {
    HotPipes x = bent();
    dueAsked("15 the first of alike", x, x.bestLoop(3, 60), 0, 217);
    due("15 nothing changes", x.count(1), 27);
    for (int d : new int[] {0, 101}) due("15 thickness", x.bestLoop(3, d), BAD);
    for (int step : new int[] {-1, 16}) due("15 no step", x.bestLoop(step, 60), BAD);
    due("15 no legs", new HotPipes().bestLoop(0, 1), STATE);
    due("15 BAD ahead of STATE", new HotPipes().bestLoop(0, 0), BAD);
    x = stiff();
    x.where(7, 0);
    dueAsked("15 none has one leaves asked", x, x.bestLoop(0, 100), NONE, 7);
    x = new HotPipes();
    x.leg(2, 2, 0);
    due("15 only short ones", x.bestLoop(0, 1), NONE);
    x.leg(4, 3, 0);
    dueAsked("15 the least way", x, x.bestLoop(0, 1), 1, 1);
    x = new HotPipes();
    x.leg(0, 6, 0);
    x.leg(3, 4, 0);
    x.leg(1, 4, 0);
    x.leg(2, 3, 0);
    // Of the WAYS across LEG 0, y more is the least, and away from the others.
    dueAsked("15 on the outer side", x, x.bestLoop(0, 1), 0, 201);
  }

  private static void promise16Rest() {
    HotPipes x = new HotPipes();
    due("16 no run", x.rest(0, 1, 0), BAD);
    x.leg(0, 14, 0);
    for (int kind : new int[] {-1, 4}) due("16 no kind", x.rest(kind, 1, 1), BAD);
    for (int p : new int[] {-1, 0, 14, 15}) due("16 no place", x.rest(0, p, 1), BAD);
    for (int rate : new int[] {-1, 0, 501}) due("16 no rate", x.rest(2, 1, rate), BAD);
    due("16 first", x.rest(2, 1, 500), 0);
    due("16 rate not looked at", x.rest(3, 13, -7), 1);
    due("16 at one place", x.rest(0, 13, 0), BAD);
    x.drop(1);
    due("16 at the place of the first", x.rest(0, 1, 0), BAD);
    due("16 at the place of a dropped one", x.rest(1, 13, 0), 2);
    for (int i = 3; i < 12; i++) due("16 up to twelve", x.rest(0, i, 0), i);
    due("16 thirteen", x.rest(0, 2, 0), FULL);
    due("16 BAD ahead of FULL", x.rest(0, 3, 0), BAD);
    x.drop(5);
    due("16 twelve ever", x.rest(0, 5, 0), FULL);
    due("16 those kept", x.count(3), 10);
  }

  private static void promise17Drop() {
    HotPipes x = new HotPipes();
    due("17 none yet", x.drop(0), BAD);
    x.leg(0, 10, 0);
    x.rest(0, 4, 0);
    x.rest(0, 8, 0);
    for (int r : new int[] {-1, 2, 12}) due("17 no rest", x.drop(r), BAD);
    dueFraction("17 with both", x, x.load(1, 0), 1, 30, 1);
    due("17 drop", x.drop(0), 1);
    dueFraction("17 with one", x, x.load(1, 0), 1, 50, 1);
    dueFinding("17 twice", x, 1, x.drop(0), NOTHING);
    due("17 ever", x.count(2), 2);
    due("17 kept", x.count(3), 1);
  }

  private static void promise18Told() {
    HotPipes x = new HotPipes();
    x.leg(0, 4, 0);
    x.leg(2, 4, 0);
    for (int kind = 0; kind < 4; kind++) x.rest(kind, kind + 1, 77);
    x.rest(0, 7, 0);
    for (int kind = 0; kind < 4; kind++) {
      due("18 kind", x.told(kind, 0), kind);
      due("18 place", x.told(kind, 1), kind + 1);
      due("18 rate", x.told(kind, 2), kind == 2 ? 77 : NONE);
      due("18 there", x.told(kind, 3), 1);
    }
    x.cut();
    due("18 at the end now", x.told(3, 3), 0);
    due("18 just ahead of it", x.told(2, 3), 1);
    due("18 beyond it", x.told(4, 3), 0);
    due("18 its place stays", x.told(4, 1), 7);
    x.leg(0, 4, 0);
    due("18 there again", x.told(4, 3), 1);
    for (int what : new int[] {-1, 4}) due("18 no such", x.told(0, what), BAD);
    for (int r : new int[] {-1, 5}) due("18 no rest", x.told(r, 0), BAD);
    x.drop(0);
    dueFinding("18 dropped", x, 1, x.told(0, 0), NOTHING);
    due("18 BAD ahead of a finding", x.told(0, 4), BAD);
  }

  private static void promise19Is() {
    HotPipes x = new HotPipes();
    x.leg(0, 9, 0);
    int[][] want = {{1, 0, 0, 0}, {1, 1, 0, 0}, {1, 1, 1, 0}, {1, 0, 0, 1}};
    for (int own = 0; own < 4; own++) {
      x.rest(own, own + 1, 1);
      for (int kind = 0; kind < 4; kind++) due("19 " + own + " is " + kind, x.is(own, kind), want[own][kind]);
    }
    for (int kind : new int[] {-1, 4}) due("19 no kind", x.is(0, kind), BAD);
    for (int r : new int[] {-1, 4}) due("19 no rest", x.is(r, 0), BAD);
    x.drop(3);
    dueFinding("19 dropped", x, 1, x.is(3, 0), NOTHING);
    due("19 BAD ahead of a finding", x.is(3, 4), BAD);
  }

  private static void promise20Lifts() {
    HotPipes x = bent();
    for (int kind = 0; kind < 4; kind++) x.rest(kind, 14 + kind, 5);
    x.rest(0, 12, 0);
    for (int kind = 0; kind < 4; kind++) {
      due("20 hot, kind " + kind, x.lifts(kind, 2), kind < 2 ? 1 : 0);
      due("20 cold, kind " + kind, x.lifts(kind, 0), 0);
    }
    due("20 no move", x.lifts(4, 2), 0);
    x.lay(0, 2, -1);
    due("20 down", x.lifts(0, 2), 0);
    x.rest(0, 13, 0);
    x.lay(0, 2, 1);
    due("20 by one thousandth", x.lifts(5, 2), 1);
    for (int step : new int[] {-1, 16}) due("20 no step", x.lifts(0, step), BAD);
    for (int r : new int[] {-1, 6}) due("20 no rest", x.lifts(r, 0), BAD);
    x.drop(0);
    dueFinding("20 dropped", x, 1, x.lifts(0, 1), NOTHING);
    due("20 BAD ahead of a finding", x.lifts(0, 16), BAD);
    liftsOnlyIfThere();
  }

  private static void liftsOnlyIfThere() {
    HotPipes x = bent();
    int end = 18;
    for (int place = end - 1; place <= end + 1; place++) x.rest(0, place, 0);
    x.rest(1, end + 2, 0);
    x.rest(1, end - 2, 0);
    for (int r = 0; r < 5; r++) due("20 ahead of cut(), rest " + r, x.lifts(r, 2), 1);
    x.cut();
    due("20 L after cut()", x.count(1), end);
    int[] want = {1, 0, 0, 0, 1};
    for (int r = 0; r < 5; r++) {
      due("20 there after cut(), rest " + r, x.told(r, 3), want[r]);
      due("20 after cut(), rest " + r, x.lifts(r, 2), want[r]);
    }
    due("20 not there is no finding", x.finding(), 0);
    due("20 not there, no step", x.lifts(1, 16), BAD);
    x.leg(2, 2, 0);
    due("20 there again", x.lifts(1, 2), 1);
    due("20 there again, the last place", x.lifts(2, 2), 1);
    due("20 at the end still", x.lifts(3, 2), 0);
    while (x.count(0) > 0) x.cut();
    for (int r = 0; r < 5; r++) due("20 no legs, rest " + r, x.lifts(r, 2), 0);
    x.drop(1);
    dueFinding("20 not there and dropped", x, 1, x.lifts(1, 2), NOTHING);
  }

  private static void promise21Load() {
    HotPipes x = bent();
    x.rest(0, 6, 0);
    x.rest(1, 15, 0);
    x.rest(2, 20, 50);
    x.rest(3, 24, 0);
    dueFraction("21 from the anchor", x, x.load(0, 0), 1, 75, 1);
    dueFraction("21 between two", x, x.load(1, 0), 1, 70, 1);
    dueFraction("21 to the other anchor, a guide aside", x, x.load(2, 0), 1, 60, 1);
    dueFraction("21 a guide", x, x.load(3, 0), 1, 0, 1);
    dueFraction("21 lifted", x, x.load(1, 2), 1, 0, 1);
    dueFraction("21 then the others bear", x, x.load(2, 2), 1, 105, 1);
    dueFraction("21 and the one ahead", x, x.load(0, 2), 1, 100, 1);
    x.weigh(0, 1);
    dueFraction("21 halves", x, x.load(0, 0), 1, 15, 2);
    for (int step : new int[] {-1, 16}) due("21 no step", x.load(0, step), BAD);
    for (int r : new int[] {-1, 4}) due("21 no rest", x.load(r, 0), BAD);
    x.drop(1);
    dueFinding("21 dropped", x, 1, x.load(1, 0), NOTHING);
    dueFraction("21 refused leaves the fraction", x, 0, 0, 15, 2);
    x.cut();
    dueFraction("21 not there", x, x.load(2, 0), 1, 0, 1);
    x.leg(0, 20, 1);
    dueFraction("21 two stuffs", x, x.load(2, 0), 1, 106, 1);
  }

  private static void promise22Change() {
    HotPipes x = bent();
    x.rest(2, 15, 50);
    x.rest(1, 16, 0);
    dueFraction("22 up", x, x.change(0, 2), 1, 15, 4);
    dueFraction("22 cold", x, x.change(0, 0), 1, 0, 1);
    x.lay(0, 2, -25);
    dueFraction("22 down", x, x.change(0, 2), 1, 15, 4);
    x.rest(2, 20, 40);
    x.cut();
    dueFraction("22 beyond the end: the move of all units", x, x.change(2, 2), 1, 6, 1);
    dueFinding("22 no spring", x, 1, x.change(1, 2), UNLIKE);
    for (int step : new int[] {-1, 16}) due("22 no step", x.change(0, step), BAD);
    for (int r : new int[] {-1, 3}) due("22 no rest", x.change(r, 0), BAD);
    due("22 BAD ahead of a finding", x.change(1, 16), BAD);
    x.drop(0);
    dueFinding("22 dropped", x, 1, x.change(0, 2), NOTHING);
    x.drop(1);
    dueFinding("22 dropped, and no spring", x, 2, x.change(1, 2), NOTHING);
  }

  private static void promise23Firm() {
    HotPipes x = bent();
    x.rest(2, 20, 50);
    x.rest(3, 7, 0);
    dueFraction("23 by its load", x, x.firm(0, 2), 1, 1, 18);
    dueFraction("23 cold", x, x.firm(0, 0), 1, 0, 1);
    dueFinding("23 no spring", x, 1, x.firm(1, 2), UNLIKE);
    for (int step : new int[] {-1, 16}) due("23 no step", x.firm(0, step), BAD);
    for (int r : new int[] {-1, 2}) due("23 no rest", x.firm(r, 0), BAD);
    x.load(0, 0);
    x.cut();
    dueFinding("23 bears nothing", x, 1, x.firm(0, 2), NOUGHT);
    dueFraction("23 refused leaves the fraction", x, 0, 0, 135, 1);
    x.drop(0);
    dueFinding("23 dropped", x, 1, x.firm(0, 2), NOTHING);
  }

  private static void promise24List() {
    HotPipes x = new HotPipes();
    for (int rate : new int[] {-1, 0, 501}) due("24 no rate", x.list(rate), BAD);
    due("24 least", x.list(1), 1);
    due("24 greatest", x.list(500), 2);
    due("24 the same again", x.list(500), 3);
    for (int i = 4; i <= 12; i++) due("24 up to twelve", x.list(i), i);
    due("24 thirteen", x.list(9), FULL);
    due("24 BAD ahead of FULL", x.list(0), BAD);
    due("24 counted", x.count(4), 12);
  }

  private static void promise25Choose() {
    HotPipes x = bent();
    x.rest(2, 20, 50);
    x.rest(0, 6, 0);
    due("25 an empty list", x.choose(0, 2), NONE);
    // LOAD is 105 and MOVE 150: a quarter is just met by the rate 175.
    x.list(176);
    due("25 just too firm", x.choose(0, 2), NONE);
    due("25 keeps its own", x.told(0, 2), 50);
    x.list(20);
    x.list(175);
    x.list(30);
    due("25 just a quarter", x.choose(0, 2), 175);
    due("25 gets it", x.told(0, 2), 175);
    due("25 cold, all do", x.choose(0, 0), 176);
    dueFinding("25 no spring", x, 1, x.choose(1, 2), UNLIKE);
    for (int step : new int[] {-1, 16}) due("25 no step", x.choose(0, step), BAD);
    for (int r : new int[] {-1, 2}) due("25 no rest", x.choose(r, 0), BAD);
    x.cut();
    dueFinding("25 bears nothing", x, 1, x.choose(0, 2), NOUGHT);
    due("25 still its own", x.told(0, 2), 176);
    x.drop(0);
    dueFinding("25 dropped", x, 1, x.choose(0, 2), NOTHING);
  }

  private static void promise26Amount() {
    HotPipes x = new HotPipes();
    due("26 the edges", x.amount(7, 10000, -9, 9), 1);
    due("26 worst", x.worst(), 90000);
    due("26 the other edges", x.amount(7, -10000, -9, -9), 1);
    due("26 worst again", x.worst(), 90000);
    for (int c : new int[] {-1, 8}) due("26 no case", x.amount(c, 0, 0, 0), BAD);
    for (int v : new int[] {-10001, 10001}) due("26 no amount", x.amount(0, v, 0, 0), BAD);
    due("26 low too low", x.amount(0, 0, -10, 0), BAD);
    due("26 high too high", x.amount(0, 0, 0, 10), BAD);
    due("26 both too high", x.amount(0, 0, 10, 10), BAD);
    due("26 low above high", x.amount(0, 0, 1, 0), BAD);
    due("26 refused changes nothing", x.worst(), 90000);
    due("26 the first factors are 0 and 1", firstFactors(), 1);
  }

  /** 1, if a digest tells a CASE laid with 0, 0 and 1 from no other one. */
  private static int firstFactors() {
    HotPipes x = new HotPipes();
    long first = x.digest();
    x.amount(3, 0, 0, 1);
    return x.digest() == first ? 1 : 0;
  }

  private static void promise27Bar() {
    HotPipes x = new HotPipes();
    due("27 first", x.bar(0, 7, true), 0);
    due("27 the other way round", x.bar(7, 0, true), 1);
    due("27 not any more", x.bar(7, 0, false), 1);
    due("27 they were not", x.bar(0, 7, false), 0);
    due("27 the same one", x.bar(3, 3, true), BAD);
    for (int c : new int[] {-1, 8}) {
      due("27 no case", x.bar(c, 1, true), BAD);
      due("27 no other case", x.bar(1, c, true), BAD);
    }
  }

  private static void promise28Worst() {
    HotPipes x = new HotPipes();
    dueAsked("28 none", x, x.worst(), 0, 0);
    x.amount(0, 100, 0, 2);
    x.amount(1, -50, -1, 1);
    x.amount(2, 70, 1, 1);
    dueAsked("28 low of one, high of another", x, x.worst(), 320, 7);
    x.bar(0, 2, true);
    dueAsked("28 barred", x, x.worst(), 250, 3);
    x.bar(0, 1, true);
    dueAsked("28 either", x, x.worst(), 200, 1);
    x.amount(2, 75, 1, 2);
    dueAsked("28 alike: the least set", x, x.worst(), 200, 1);
    x.amount(2, 76, 1, 2);
    dueAsked("28 two against one", x, x.worst(), 202, 6);
    x.amount(3, 0, 0, 1);
    x.amount(4, -3, 1, 2);
    dueAsked("28 what adds nothing stays out", x, x.worst(), 202, 6);
    x = new HotPipes();
    x.amount(0, 1, 1, 1);
    dueAsked("28 the least above none", x, x.worst(), 1, 1);
    for (int c = 0; c < 8; c++) x.amount(c, -1, 1, 1);
    x.where(0, 0);
    dueAsked("28 all below 0", x, x.worst(), 0, 0);
    for (int c = 0; c < 8; c++) x.amount(c, 10000, -9, 9);
    dueAsked("28 all", x, x.worst(), 720000, 255);
  }

  private static void promise29Cycle() {
    HotPipes x = new HotPipes();
    for (int n : new int[] {-1, 0, 100001}) due("29 times", x.cycle(n, 1), BAD);
    for (int range : new int[] {-1, 0, 61}) due("29 range", x.cycle(1, range), BAD);
    for (int i = 1; i <= 30; i++) due("29 up to thirty", x.cycle(i % 2 == 0 ? 1 : 100000, i % 2 == 0 ? 1 : 60), i);
    due("29 thirty-one", x.cycle(1, 1), FULL);
    due("29 BAD ahead of FULL", x.cycle(0, 1), BAD);
    due("29 counted", x.count(5), 30);
  }

  private static void promise30Used() {
    HotPipes x = new HotPipes();
    dueFraction("30 nothing", x, x.used(), 0, 0, 1);
    x.cycle(65535, 3);
    dueFraction("30 no whole four", x, x.used(), 0, 65535, 65536);
    x.cycle(1, 1);
    dueFraction("30 just all", x, x.used(), 0, 1, 1);
    x.cycle(1, 4);
    dueFraction("30 one four", x, x.used(), 1, 32769, 32768);
    x = new HotPipes();
    x.cycle(1, 7);
    dueFraction("30 seven has one four", x, x.used(), 0, 1, 32768);
    x.cycle(3, 60);
    dueFraction("30 sixty has fifteen", x, x.used(), 1, 49153, 32768);
    x = new HotPipes();
    for (int i = 0; i < 30; i++) x.cycle(100000, 60);
    dueFraction("30 the most", x, x.used(), 1, 1500000, 1);
  }

  private static void promise31Read() {
    HotPipes x = new HotPipes();
    due("31 none yet", x.read(0, 1), BAD);
    x.leg(0, 9, 0);
    x.rest(3, 4, 0);
    due("31 not told", x.read(0, 0), NONE);
    due("31 what it was", x.read(0, 100000), 0);
    due("31 the most", x.read(0, NONE), 100000);
    due("31 not told again", x.read(0, 7), NONE);
    for (int v : new int[] {-1, -8, -10, 100001}) due("31 no reading", x.read(0, v), BAD);
    for (int r : new int[] {-1, 1}) due("31 no rest", x.read(r, 0), BAD);
    x.drop(0);
    dueFinding("31 dropped", x, 1, x.read(0, 3), NOTHING);
    due("31 BAD ahead of a finding", x.read(0, -1), BAD);
    x.rest(0, 5, 0);
    due("31 of a new one", x.read(1, 3), NONE);
  }

  private static void promise32Missing() {
    HotPipes x = bent();
    x.rest(0, 6, 0);
    x.rest(1, 15, 0);
    x.rest(2, 20, 50);
    x.rest(3, 24, 0);
    due("32 nothing was read", x.missing(0), STATE);
    x.read(0, 150);
    dueAsked("32 read as it is", x, x.missing(0), NONE, 0);
    for (int step : new int[] {-1, 16}) due("32 no step", x.missing(step), BAD);
    x.read(0, 150);
    x.read(1, 140);
    x.read(2, 120);
    dueAsked("32 none at all", x, x.missing(0), NONE, 0);
    x.read(0, 200);
    x.read(1, 5);
    x.read(2, 210);
    dueAsked("32 the middle one", x, x.missing(0), 1, 0);
    x.read(3, 4);
    dueAsked("32 a guide's reading", x, x.missing(0), 1, 4);
    dueAsked("32 lifted: no choice", x, x.missing(2), NONE, 9);
    x.read(0, NONE);
    x.read(1, NONE);
    x.read(2, NONE);
    dueAsked("32 alike: none first", x, x.missing(0), NONE, 4);
    x.read(3, NONE);
    due("32 not told any more", x.missing(0), STATE);
    x.read(3, 4);
    x.drop(3);
    due("32 the only one is dropped", x.missing(0), STATE);
    alikeMissing();
  }

  private static void alikeMissing() {
    HotPipes x = new HotPipes();
    x.leg(0, 9, 0);
    x.rest(0, 3, 0);
    x.rest(0, 6, 0);
    // Each bears 60 doubled; without the other one 90.
    x.read(0, 65);
    dueAsked("32 read only of the first, taken away", x, x.missing(0), 0, 0);
    x.read(0, 90);
    x.read(1, 90);
    dueAsked("32 alike: the least rest", x, x.missing(0), 0, 0);
    x.leg(2, 5, 0);
    x.rest(0, 12, 0);
    x.read(2, 1000);
    x.cut();
    dueAsked("32 one that is not there is compared with 0", x, x.missing(0), 0, 1000);
    x.drop(2);
    dueAsked("32 one that is dropped is not", x, x.missing(0), 0, 0);
    readOnlyBeyondTheEnd();
  }

  private static void readOnlyBeyondTheEnd() {
    HotPipes x = new HotPipes();
    x.leg(0, 9, 0);
    x.leg(0, 7, 0);
    x.rest(0, 4, 0);
    x.rest(0, 9, 0);
    x.read(1, 30);
    x.cut();
    dueAsked("32 not there at L itself: no choice, but compared", x, x.missing(0), NONE, 30);
    x.leg(0, 7, 0);
    // There again, it bears 120 doubled; taken away, nothing read is left to compare.
    dueAsked("32 there again: a choice", x, x.missing(0), 1, 0);
    x.cut();
    x.cut();
    dueAsked("32 no run at all", x, x.missing(0), NONE, 30);
    x.drop(1);
    due("32 the only one beyond is dropped", x.missing(0), STATE);
  }

  private static void promise33Asked() {
    HotPipes x = bent();
    due("33 before", x.asked(), 0);
    x.where(5, 0);
    x.loop(0, 4, 3, 60);
    x.rest(0, 5, 0);
    x.load(0, 0);
    x.used();
    due("33 others leave it", x.asked(), 5);
    x.where(99, 0);
    x.grown(16, 0);
    x.move(99, 0);
    x.soft(0, 0);
    x.bestLoop(0, 0);
    x.missing(0);
    due("33 refused ones leave it", x.asked(), 5);
    x.rest(3, 9, 0);
    x.read(1, 70);
    dueAsked("33 missing tells", x, x.missing(0), NONE, 70);
    x.worst();
    due("33 worst tells", x.asked(), 0);
  }

  private static void promise34And35Fraction() {
    HotPipes x = bent();
    due("34 before", x.upper(), 0);
    due("35 before", x.lower(), 1);
    x.rest(2, 20, 50);
    x.rest(0, 3, 0);
    x.change(0, 2);
    due("34 upper", x.upper(), 15);
    due("35 lower", x.lower(), 2);
    x.change(1, 2);
    x.firm(0, 16);
    x.load(9, 0);
    due("34 refused ones leave it", x.upper(), 15);
    due("35 refused ones leave it", x.lower(), 2);
    x.used();
    due("34 nought", x.upper(), 0);
    due("35 nought by one", x.lower(), 1);
  }

  private static void promise36Count() {
    HotPipes x = bent();
    x.rest(0, 3, 0);
    x.rest(0, 4, 0);
    x.drop(0);
    for (int i = 0; i < 4; i++) x.list(7);
    for (int i = 0; i < 5; i++) x.cycle(1, 1);
    int[] want = {3, 27, 2, 1, 4, 5};
    for (int what = 0; what < 6; what++) due("36 count " + what, x.count(what), want[what]);
    for (int what : OUTSIDE) due("36 no such", x.count(what), BAD);
    due("36 no sixth", x.count(6), BAD);
  }

  private static void promise37And38Findings() {
    HotPipes x = new HotPipes();
    due("37 before any", x.finding(), 0);
    for (int f = 1; f <= 5; f++) due("38 before any", x.findings(f), 0);
    x.stuff(0, -1);
    x.stuff(0, -1);
    x.tear(0);
    due("37 the latest", x.finding(), NOTHING);
    due("38 SIZE", x.findings(SIZE), 2);
    due("38 NOTHING", x.findings(NOTHING), 1);
    x.leg(0, 0, 0);
    x.cut();
    x.worst();
    due("37 stays", x.finding(), NOTHING);
    for (int f : OUTSIDE) due("38 no such", x.findings(f), BAD);
    for (int f : new int[] {0, 6}) due("38 just outside", x.findings(f), BAD);
    due("38 asking is no finding", x.findings(BEYOND) + x.findings(UNLIKE) + x.findings(NOUGHT), 0);
  }

  private static long mix(long... all) {
    long h = 17;
    for (long v : all) h = 31 * h + v;
    return h;
  }

  private static void promise39Digest() {
    HotPipes x = new HotPipes();
    due("39 new", x.digest(), mix(0, 0, 0, 0, 0, 0, 0, 0, 1, 0, 0, 1, 0, 0, 1, 0, 0, 1, 0, 0, 1, 0, 0, 1, 0, 0, 1,
        0, 0, 1, 10, -1, 10, -1, 10, -1, 10, -1));
    x.stuff(1, 2);
    x.lay(1, 1, -4);
    x.weigh(2, 30);
    x.leg(4, 5, 1);
    x.leg(1, 6, 3);
    x.rest(2, 3, 44);
    x.rest(0, 4, 9);
    x.rest(1, 9, 9);
    x.drop(1);
    x.read(0, 12);
    x.cut();
    x.list(5);
    x.cycle(9, 9);
    x.amount(1, -6, -2, 3);
    x.bar(1, 2, true);
    due("39 of all", x.digest(), mix(1, 5, 3, 2, 1, 1, 4, 5, 1, 2, 3, 44, 1, 12, -1, 1, 9, -9, 0, -9, 0, 0, 1,
        -6, -2, 3, 0, 0, 1, 0, 0, 1, 0, 0, 1, 0, 0, 1, 0, 0, 1, 0, 0, 1, 10, -1, 10, 2, 0, -4, 30, -1, 10, -1));
    long was = x.digest();
    x.told(1, 0);
    x.where(0, 0);
    x.bestLoop(0, 9);
    x.missing(0);
    x.used();
    due("39 asking changes nothing", x.digest(), was);
  }

  public static void main(String[] args) {
    constants();
    promise01NewObject();
    promise02Stuff();
    promise03Lay();
    promise04Tear();
    promise05Copy();
    promise06Weigh();
    promise07Mean();
    promise08Leg();
    promise09Cut();
    promise10Where();
    promise11Grown();
    promise12Move();
    promise13Soft();
    promise14Loop();
    promise14Limits();
    promise14Free();
    promise14Feet();
    promise15BestLoop();
    promise16Rest();
    promise17Drop();
    promise18Told();
    promise19Is();
    promise20Lifts();
    promise21Load();
    promise22Change();
    promise23Firm();
    promise24List();
    promise25Choose();
    promise26Amount();
    promise27Bar();
    promise28Worst();
    promise29Cycle();
    promise30Used();
    promise31Read();
    promise32Missing();
    promise33Asked();
    promise34And35Fraction();
    promise36Count();
    promise37And38Findings();
    promise39Digest();
    System.out.println(wrong == 0 ? "every promise is kept" : wrong + " answers are not as due");
    if (wrong != 0) System.exit(1);
  }
}
