import java.math.BigInteger;
import java.util.ArrayList;
import java.util.Arrays;
import java.util.HashSet;
import java.util.List;
import java.util.Random;
import java.util.Set;

/**
 * Long runs of chance calls, the same ones each time, on HotPipes and on a slow model that is
 * written from the document alone: units one by one, loops laid out point by point.
 */
public final class ModelTest {
  private static final int RUNS = 600, CALLS = 512;
  private static final int BAD = -1, FULL = -2, FINDING = -3, STATE = -4, NONE = -9;
  private static final int[][] STEP_OF_WAY =
      {{1, 0, 0}, {-1, 0, 0}, {0, 1, 0}, {0, -1, 0}, {0, 0, 1}, {0, 0, -1}};

  /** One unit of pipe. */
  private record Unit(int way, int stuff) {}

  /** A whole point of the lattice. */
  private record Point(int x, int y, int z) {
    Point next(int way) {
      int[] s = STEP_OF_WAY[way];
      return new Point(x + s[0], y + s[1], z + s[2]);
    }

    int along(int axis) {
      return axis == 0 ? x : axis == 1 ? y : z;
    }
  }

  private static final class Support {
    int kind;
    int place;
    int rate;
    int read = NONE;
  }

  private static final class Model {
    final byte[][] rows = new byte[4][];
    final int[] weights = {10, 10, 10, 10};
    final List<int[]> legs = new ArrayList<>();
    final List<Support> supports = new ArrayList<>();
    final List<Integer> rates = new ArrayList<>();
    final int[][] cases = new int[8][];
    final boolean[][] barred = new boolean[8][8];
    final List<int[]> lines = new ArrayList<>();
    final int[] found = new int[6];
    int lastFound = 0;
    int asked = 0;
    BigInteger upper = BigInteger.ZERO;
    BigInteger lower = BigInteger.ONE;

    Model() {
      for (int c = 0; c < 8; c++) cases[c] = new int[] {0, 0, 1};
    }

    int find(int f) {
      found[f]++;
      lastFound = f;
      return FINDING;
    }

    void tell(long up, long low) {
      BigInteger a = BigInteger.valueOf(up), b = BigInteger.valueOf(low), g = a.gcd(b);
      upper = a.divide(g);
      lower = b.divide(g);
    }

    static boolean in(int v, int a, int b) {
      return a <= v && v <= b;
    }

    List<Unit> units() {
      List<Unit> all = new ArrayList<>();
      for (int[] leg : legs) for (int u = 0; u < leg[1]; u++) all.add(new Unit(leg[0], leg[2]));
      return all;
    }

    static List<Point> points(List<Unit> units) {
      List<Point> all = new ArrayList<>();
      all.add(new Point(0, 0, 0));
      for (Unit u : units) all.add(all.get(all.size() - 1).next(u.way));
      return all;
    }

    int growth(Unit u, int step) {
      byte[] row = rows[u.stuff];
      return row == null || step >= row.length ? 0 : row[step];
    }

    int grown(List<Unit> units, int step, int axis) {
      int sum = 0;
      for (Unit u : units) sum += growth(u, step) * STEP_OF_WAY[u.way][axis];
      return sum;
    }

    int length() {
      return units().size();
    }

    int moveOf(int place, int step) {
      List<Unit> units = units();
      return grown(units.subList(0, Math.min(place, units.size())), step, 2);
    }

    static long root(long n) {
      long r = (long) Math.sqrt((double) n);
      while (r * r > n) r--;
      while ((r + 1) * (r + 1) <= n) r++;
      return r;
    }

    int spare(List<Unit> units, int step, int d) {
      List<Point> points = points(units);
      Point end = points.get(points.size() - 1);
      long apart = root((long) end.x * end.x + (long) end.y * end.y + (long) end.z * end.z);
      long g = 0;
      for (int axis = 0; axis < 3; axis++) {
        long v = grown(units, step, axis);
        g += v * v;
      }
      long slack = units.size() - apart;
      return (int) (30 * slack * slack - d * root(g));
    }

    int loopOf(int leg, int way, int step, int d) {
      List<Unit> before = new ArrayList<>(), after = new ArrayList<>();
      for (int i = 0; i < legs.size(); i++) {
        List<Unit> to = i < leg ? before : after;
        if (i != leg) for (int u = 0; u < legs.get(i)[1]; u++) to.add(new Unit(legs.get(i)[0], legs.get(i)[2]));
      }
      int own = legs.get(leg)[0], n = legs.get(leg)[1], stuff = legs.get(leg)[2];
      Set<Point> run = new HashSet<>(points(units()));
      for (int out = 1; out <= 20; out++) {
        List<Unit> looped = new ArrayList<>(before);
        for (int u = 0; u < n / 3; u++) looped.add(new Unit(own, stuff));
        int from = looped.size();
        for (int u = 0; u < out; u++) looped.add(new Unit(way, stuff));
        for (int u = 0; u < n / 3; u++) looped.add(new Unit(own, stuff));
        for (int u = 0; u < out; u++) looped.add(new Unit(way ^ 1, stuff));
        int to = looped.size();
        for (int u = 0; u < n - 2 * (n / 3); u++) looped.add(new Unit(own, stuff));
        looped.addAll(after);
        List<Point> points = points(looped);
        boolean free = true;
        for (int p = from + 1; p < to; p++) free &= !run.contains(points.get(p));
        if (free && spare(looped, step, d) >= 0) return out;
      }
      return NONE;
    }

    boolean there(int r) {
      return supports.get(r) != null && supports.get(r).place < length();
    }

    boolean lifted(int r, int step) {
      Support s = supports.get(r);
      return there(r) && s.kind <= 1 && moveOf(s.place, step) > 0;
    }

    int twiceLoad(int rest, int step, int without) {
      int[] at = new int[length() + 1];
      Arrays.fill(at, NONE);
      for (int r = 0; r < supports.size(); r++) {
        if (r != without && there(r) && supports.get(r).kind != 3 && !lifted(r, step)) at[supports.get(r).place] = r;
      }
      int place = supports.get(rest).place;
      if (place >= at.length || at[place] != rest) return 0;
      List<Unit> units = units();
      int sum = 0;
      for (int p = place; p > 0 && (p == place || at[p] == NONE); p--) sum += weights[units.get(p - 1).stuff];
      for (int p = place; p < units.size() && (p == place || at[p] == NONE); p++) sum += weights[units.get(p).stuff];
      return sum;
    }

    int restRefusal(int rest, boolean good, boolean springOnly) {
      if (!in(rest, 0, supports.size() - 1) || !good) return BAD;
      if (supports.get(rest) == null) return find(1);
      return springOnly && supports.get(rest).kind != 2 ? find(3) : 0;
    }

    int told(Support s, int what) {
      if (what == 0) return s.kind;
      if (what == 1) return s.place;
      if (what == 2) return s.kind == 2 ? s.rate : NONE;
      return s.place < length() ? 1 : 0;
    }

    /** The best sum with the CASES c .. 7 added to a set, each out, at low or at high. */
    long[] worstFrom(int c, int set, long sum) {
      if (c == 8) return new long[] {sum, set};
      long[] best = worstFrom(c + 1, set, sum);
      for (int b = 0; b < 8; b++) if ((set >> b & 1) == 1 && barred[b][c]) return best;
      for (int factor = 1; factor <= 2; factor++) {
        long[] other = worstFrom(c + 1, set | 1 << c, sum + cases[c][0] * cases[c][factor]);
        if (other[0] > best[0] || (other[0] == best[0] && other[1] < best[1])) best = other;
      }
      return best;
    }

    long sumWithout(int without, int step) {
      long sum = 0;
      for (int r = 0; r < supports.size(); r++) {
        if (r != without && supports.get(r) != null && supports.get(r).read != NONE) {
          sum += Math.abs(twiceLoad(r, step, without) - supports.get(r).read);
        }
      }
      return sum;
    }

    int count(int what) {
      int kept = 0;
      for (Support s : supports) if (s != null) kept++;
      int[] all = {legs.size(), length(), supports.size(), kept, rates.size(), lines.size()};
      return in(what, 0, 5) ? all[what] : BAD;
    }

    long digest() {
      List<Integer> all = new ArrayList<>();
      for (int what = 0; what < 6; what++) all.add(count(what));
      for (int[] leg : legs) for (int v : leg) all.add(v);
      for (Support s : supports) {
        if (s == null) all.add(-1);
        else {
          for (int what = 0; what < 4; what++) all.add(told(s, what));
          all.add(s.read);
        }
      }
      for (int[] c : cases) for (int v : c) all.add(v);
      for (int s = 0; s < 4; s++) {
        all.add(weights[s]);
        all.add(rows[s] == null ? -1 : rows[s].length);
        if (rows[s] != null) for (byte b : rows[s]) all.add((int) b);
      }
      long h = 17;
      for (int v : all) h = 31 * h + v;
      return h;
    }

    int answerOne(int call, int[] a) {
      switch (call) {
        case 0:
          if (!in(a[0], 0, 3) || a[1] > 16) return BAD;
          if (a[1] < 0) return find(5);
          rows[a[0]] = new byte[a[1]];
          return a[1];
        case 1: {
          if (!in(a[0], 0, 3)) return BAD;
          if (rows[a[0]] == null) return find(1);
          if (!in(a[1], 0, rows[a[0]].length - 1)) return find(2);
          int was = rows[a[0]][a[1]];
          rows[a[0]][a[1]] = (byte) a[2];
          return was + 1000;
        }
        case 2:
          if (!in(a[0], 0, 3)) return BAD;
          if (rows[a[0]] == null) return find(1);
          rows[a[0]] = null;
          return 1;
        case 3: {
          if (!in(a[0], 0, 3) || !in(a[2], 0, 3)) return BAD;
          byte[] from = rows[a[0]], to = rows[a[2]];
          if (from == null || to == null) return find(1);
          if (a[1] < 0 || a[3] < 0 || a[4] < 0) return find(2);
          if ((long) a[1] + a[4] > from.length || (long) a[3] + a[4] > to.length) return find(2);
          byte[] taken = from.clone();
          for (int k = 0; k < a[4]; k++) to[a[3] + k] = taken[a[1] + k];
          return 1;
        }
        case 4: {
          if (!in(a[0], 0, 3) || !in(a[1], 1, 50)) return BAD;
          int was = weights[a[0]];
          weights[a[0]] = a[1];
          return was;
        }
        case 5: {
          if (!in(a[0], 0, 3)) return BAD;
          if (rows[a[0]] == null) return find(1);
          if (rows[a[0]].length == 0) return find(4);
          int sum = 0;
          for (byte b : rows[a[0]]) sum += b;
          return sum / rows[a[0]].length;
        }
        case 6:
          if (!in(a[0], 0, 5) || !in(a[1], 1, 20) || !in(a[2], 0, 3)) return BAD;
          if (legs.size() == 12) return FULL;
          legs.add(new int[] {a[0], a[1], a[2]});
          return legs.size();
        case 7:
          if (legs.isEmpty()) return STATE;
          legs.remove(legs.size() - 1);
          return legs.size();
        case 8:
          if (!in(a[0], 0, length()) || !in(a[1], 0, 2)) return BAD;
          asked = points(units()).get(a[0]).along(a[1]);
          return 1;
        case 9:
          if (!in(a[0], 0, 15) || !in(a[1], 0, 2)) return BAD;
          asked = grown(units(), a[0], a[1]);
          return 1;
        case 10:
          if (!in(a[0], 0, length()) || !in(a[1], 0, 15)) return BAD;
          asked = moveOf(a[0], a[1]);
          return 1;
        case 11:
          if (!in(a[0], 0, 15) || !in(a[1], 1, 100)) return BAD;
          if (legs.isEmpty()) return STATE;
          asked = spare(units(), a[0], a[1]);
          return asked < 0 ? 0 : 1;
        case 12:
          if (!in(a[0], 0, legs.size() - 1) || !in(a[1], 0, 5) || !in(a[2], 0, 15) || !in(a[3], 1, 100)) return BAD;
          if (a[1] / 2 == legs.get(a[0])[0] / 2) return BAD;
          if (legs.get(a[0])[1] < 3) return STATE;
          return loopOf(a[0], a[1], a[2], a[3]);
        case 13: {
          if (!in(a[0], 0, 15) || !in(a[1], 1, 100)) return BAD;
          if (legs.isEmpty()) return STATE;
          int[] best = null;
          for (int leg = 0; leg < legs.size(); leg++) {
            for (int way = 0; way < 6; way++) {
              if (legs.get(leg)[1] < 3 || way / 2 == legs.get(leg)[0] / 2) continue;
              int out = loopOf(leg, way, a[0], a[1]);
              if (out != NONE && (best == null || out < best[0])) best = new int[] {out, leg, way};
            }
          }
          if (best == null) return NONE;
          asked = best[0] + 100 * best[2];
          return best[1];
        }
        default:
          return answerTwo(call, a);
      }
    }

    int answerTwo(int call, int[] a) {
      int no;
      switch (call) {
        case 14: {
          if (!in(a[0], 0, 3) || !in(a[1], 1, length() - 1) || (a[0] == 2 && !in(a[2], 1, 500))) return BAD;
          for (Support s : supports) if (s != null && s.place == a[1]) return BAD;
          if (supports.size() == 12) return FULL;
          Support made = new Support();
          made.kind = a[0];
          made.place = a[1];
          made.rate = a[2];
          supports.add(made);
          return supports.size() - 1;
        }
        case 15:
          no = restRefusal(a[0], true, false);
          if (no != 0) return no;
          supports.set(a[0], null);
          return 1;
        case 16:
          no = restRefusal(a[0], in(a[1], 0, 3), false);
          return no != 0 ? no : told(supports.get(a[0]), a[1]);
        case 17: {
          no = restRefusal(a[0], in(a[1], 0, 3), false);
          if (no != 0) return no;
          String kindsOf = new String[] {"0", "01", "012", "03"}[supports.get(a[0]).kind];
          return kindsOf.indexOf((char) ('0' + a[1])) >= 0 ? 1 : 0;
        }
        case 18:
          no = restRefusal(a[0], in(a[1], 0, 15), false);
          return no != 0 ? no : lifted(a[0], a[1]) ? 1 : 0;
        case 19:
          no = restRefusal(a[0], in(a[1], 0, 15), false);
          if (no != 0) return no;
          tell(twiceLoad(a[0], a[1], NONE), 2);
          return 1;
        case 20:
          no = restRefusal(a[0], in(a[1], 0, 15), true);
          if (no != 0) return no;
          tell((long) supports.get(a[0]).rate * Math.abs(moveOf(supports.get(a[0]).place, a[1])), 1000);
          return 1;
        case 21: {
          no = restRefusal(a[0], in(a[1], 0, 15), true);
          if (no != 0) return no;
          int load = twiceLoad(a[0], a[1], NONE);
          if (load == 0) return find(4);
          tell(2L * supports.get(a[0]).rate * Math.abs(moveOf(supports.get(a[0]).place, a[1])), 1000L * load);
          return 1;
        }
        case 22:
          if (!in(a[0], 1, 500)) return BAD;
          if (rates.size() == 12) return FULL;
          rates.add(a[0]);
          return rates.size();
        case 23: {
          no = restRefusal(a[0], in(a[1], 0, 15), true);
          if (no != 0) return no;
          int load = twiceLoad(a[0], a[1], NONE);
          if (load == 0) return find(4);
          Support s = supports.get(a[0]);
          for (int rate = 500; rate >= 1; rate--) {
            double firmness = rate * Math.abs(moveOf(s.place, a[1])) / 1000.0 / (load / 2.0);
            if (rates.contains(rate) && firmness <= 0.25 + 1e-9) {
              s.rate = rate;
              return rate;
            }
          }
          return NONE;
        }
        default:
          return answerThree(call, a);
      }
    }

    int answerThree(int call, int[] a) {
      int no;
      switch (call) {
        case 24:
          if (!in(a[0], 0, 7) || !in(a[1], -10000, 10000) || !in(a[2], -9, 9) || !in(a[3], -9, 9)) return BAD;
          if (a[2] > a[3]) return BAD;
          cases[a[0]] = new int[] {a[1], a[2], a[3]};
          return 1;
        case 25: {
          if (!in(a[0], 0, 7) || !in(a[1], 0, 7) || a[0] == a[1]) return BAD;
          boolean was = barred[a[0]][a[1]];
          barred[a[0]][a[1]] = (a[2] & 1) == 1;
          barred[a[1]][a[0]] = (a[2] & 1) == 1;
          return was ? 1 : 0;
        }
        case 26: {
          long[] worst = worstFrom(0, 0, 0);
          asked = (int) worst[1];
          return (int) worst[0];
        }
        case 27:
          if (!in(a[0], 1, 100000) || !in(a[1], 1, 60)) return BAD;
          if (lines.size() == 30) return FULL;
          lines.add(new int[] {a[0], a[1]});
          return lines.size();
        case 28: {
          BigInteger up = BigInteger.ZERO, low = BigInteger.ONE;
          for (int[] line : lines) {
            int n = 65536;
            for (int r = line[1]; r >= 4; r -= 4) n /= 2;
            up = up.multiply(BigInteger.valueOf(n)).add(low.multiply(BigInteger.valueOf(line[0])));
            low = low.multiply(BigInteger.valueOf(n));
            BigInteger g = up.gcd(low);
            up = up.divide(g);
            low = low.divide(g);
          }
          upper = up;
          lower = low;
          return up.compareTo(low) > 0 ? 1 : 0;
        }
        case 29: {
          no = restRefusal(a[0], a[1] == NONE || in(a[1], 0, 100000), false);
          if (no != 0) return no;
          int was = supports.get(a[0]).read;
          supports.get(a[0]).read = a[1];
          return was;
        }
        case 30: {
          if (!in(a[0], 0, 15)) return BAD;
          boolean any = false;
          for (Support s : supports) any |= s != null && s.read != NONE;
          if (!any) return STATE;
          int best = NONE;
          long least = sumWithout(NONE, a[0]);
          for (int r = 0; r < supports.size(); r++) {
            if (!there(r) || supports.get(r).kind == 3 || lifted(r, a[0])) continue;
            long sum = sumWithout(r, a[0]);
            if (sum < least) {
              least = sum;
              best = r;
            }
          }
          asked = (int) least;
          return best;
        }
        case 31:
          return count(a[0]);
        default:
          return in(a[0], 1, 5) ? found[a[0]] : BAD;
      }
    }
  }

  private static int answer(HotPipes x, int call, int[] a) {
    switch (call) {
      case 0: return x.stuff(a[0], a[1]);
      case 1: return x.lay(a[0], a[1], a[2]);
      case 2: return x.tear(a[0]);
      case 3: return x.copy(a[0], a[1], a[2], a[3], a[4]);
      case 4: return x.weigh(a[0], a[1]);
      case 5: return x.mean(a[0]);
      case 6: return x.leg(a[0], a[1], a[2]);
      case 7: return x.cut();
      case 8: return x.where(a[0], a[1]);
      case 9: return x.grown(a[0], a[1]);
      case 10: return x.move(a[0], a[1]);
      case 11: return x.soft(a[0], a[1]);
      case 12: return x.loop(a[0], a[1], a[2], a[3]);
      case 13: return x.bestLoop(a[0], a[1]);
      case 14: return x.rest(a[0], a[1], a[2]);
      case 15: return x.drop(a[0]);
      case 16: return x.told(a[0], a[1]);
      case 17: return x.is(a[0], a[1]);
      case 18: return x.lifts(a[0], a[1]);
      case 19: return x.load(a[0], a[1]);
      case 20: return x.change(a[0], a[1]);
      case 21: return x.firm(a[0], a[1]);
      case 22: return x.list(a[0]);
      case 23: return x.choose(a[0], a[1]);
      case 24: return x.amount(a[0], a[1], a[2], a[3]);
      case 25: return x.bar(a[0], a[1], (a[2] & 1) == 1);
      case 26: return x.worst();
      case 27: return x.cycle(a[0], a[1]);
      case 28: return x.used();
      case 29: return x.read(a[0], a[1]);
      case 30: return x.missing(a[0]);
      case 31: return x.count(a[0]);
      default: return x.findings(a[0]);
    }
  }

  private static final String[] NAMES = {"stuff", "lay", "tear", "copy", "weigh", "mean", "leg", "cut",
    "where", "grown", "move", "soft", "loop", "bestLoop", "rest", "drop", "told", "is", "lifts", "load",
    "change", "firm", "list", "choose", "amount", "bar", "worst", "cycle", "used", "read", "missing",
    "count", "findings"};

  /** How often each call is drawn: those that take away are rarer, so that something stands. */
  private static final int[] SHARES = {4, 12, 1, 4, 3, 2, 8, 2, 3, 3, 3, 4, 6, 1, 10, 1, 3, 3, 5, 8, 4, 4, 2,
    5, 6, 5, 1, 4, 2, 8, 6, 2, 1};

  private static final int[][] LIMITS = {{4, 17}, {4, 16, 256}, {4}, {4, 8, 4, 8, 8}, {4, 52}, {4}, {6, 22, 4},
    {}, {100, 3}, {16, 3}, {100, 16}, {16, 101}, {12, 6, 16, 101}, {16, 101}, {4, 60, 502}, {12}, {12, 4},
    {12, 4}, {12, 16}, {12, 16}, {12, 16}, {12, 16}, {502}, {12, 16}, {8, 10001, 10, 10}, {8, 8, 2}, {},
    {2000, 62}, {}, {12, 600}, {16}, {6}, {6}};

  private static final int[] WILD = {Integer.MIN_VALUE, Integer.MAX_VALUE, -9, -1, 0, 1, 2, 3, 4, 5, 6, 8, 11, 12,
    15, 16, 17, 20, 21, 50, 51, 60, 61, 100, 101, 500, 501, 10000, 10001, 100000, 100001};

  private static int[] arguments(Random chance, int call, int boldness) {
    int[] a = new int[5];
    int[] limits = LIMITS[call];
    for (int k = 0; k < limits.length; k++) {
      a[k] = chance.nextInt(limits[k]);
      if (chance.nextInt(60) < boldness) a[k] = WILD[chance.nextInt(WILD.length)];
    }
    if (call == 1) a[2] = chance.nextInt(3) == 0 ? a[2] - 128 : a[2] % 40 - 15;
    if (call == 24) {
      a[1] = chance.nextInt(3) == 0 ? a[1] : (chance.nextInt(7) - 3) * 10;
      if (chance.nextInt(5) != 0) a[2] = Math.min(a[2], a[3]) - chance.nextInt(9);
    }
    if (call == 27 && chance.nextInt(4) == 0) a[0] *= 50;
    if (call == 29 && chance.nextInt(8) == 0) a[1] = NONE;
    return a;
  }

  private static int draw(Random chance) {
    int all = 0;
    for (int share : SHARES) all += share;
    int at = chance.nextInt(all);
    for (int call = 0; call < SHARES.length; call++) {
      at -= SHARES[call];
      if (at < 0) return call;
    }
    return 0;
  }

  private static boolean alike(HotPipes x, Model m) {
    return x.asked() == m.asked && x.upper() == m.upper.longValueExact() && x.lower() == m.lower.longValueExact()
        && x.finding() == m.lastFound && x.digest() == m.digest();
  }

  public static void main(String[] args) {
    int wrong = 0;
    int[][] seen = new int[NAMES.length][4];
    for (int run = 0; run < RUNS && wrong < 20; run++) {
      Random chance = new Random(1000L + run);
      int boldness = run % 4;
      // Some runs keep to short legs in few ways, so that loops meet the run.
      boolean tight = run % 3 == 0;
      HotPipes x = new HotPipes();
      Model m = new Model();
      List<String> told = new ArrayList<>();
      for (int n = 0; n < CALLS; n++) {
        int call = draw(chance);
        int[] a = arguments(chance, call, boldness);
        if (call == 6 && tight) a[1] = 1 + chance.nextInt(7);
        int due = m.answerOne(call, a);
        int got = answer(x, call, a);
        told.add(NAMES[call] + Arrays.toString(Arrays.copyOf(a, LIMITS[call].length)) + " " + got);
        seen[call][due >= 0 ? 0 : due == BAD ? 1 : due == FINDING ? 2 : 3]++;
        if (got != due || !alike(x, m)) {
          wrong++;
          System.out.println("run " + run + " call " + n + ": due is " + due + ", asked " + m.asked + ", fraction "
              + m.upper + " by " + m.lower + ", finding " + m.lastFound + ", digest " + m.digest() + "; told "
              + x.asked() + ", " + x.upper() + " by " + x.lower() + ", " + x.finding() + ", " + x.digest());
          System.out.println("  the calls and what was answered: " + told);
          break;
        }
      }
    }
    if (args.length > 0) for (int c = 0; c < NAMES.length; c++) System.out.println(NAMES[c] + " " + Arrays.toString(seen[c]));
    System.out.println(wrong == 0 ? "the model answers alike" : wrong + " runs are not alike");
    if (wrong != 0) System.exit(1);
  }
}
