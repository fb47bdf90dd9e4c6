import java.math.BigInteger;
import java.util.ArrayList;
import java.util.Arrays;
import java.util.List;
import java.util.Random;
import java.util.regex.Matcher;
import java.util.regex.Pattern;

// Random runs of calls, each answer held against a second, plain reading of the document.
public final class ModelTest {
  private static final int BAD = -1, STATE = -2, FULL = -3, NONE = -4;
  private static final int RUNS = 3000;
  private static final int CALLS = 512;

  /** The state, whole, copied for every question: slow, and with nothing shared with the class. */
  private static final class Model implements Cloneable {
    List<int[]> stars = new ArrayList<>();
    List<Integer> walkers = new ArrayList<>();
    int front = 0, well = 20, broad = 2, till = 3, water = 20, hour = 0, miles = 0, side = 0;
    boolean[] cloud = new boolean[10];
    List<Integer> plan = new ArrayList<>();
    List<int[]> seen = new ArrayList<>();

    Model copy() {
      Model m = new Model();
      for (int[] s : stars) m.stars.add(s.clone());
      m.walkers.addAll(walkers);
      m.front = front; m.well = well; m.broad = broad; m.till = till; m.water = water;
      m.hour = hour; m.miles = miles; m.side = side;
      m.cloud = cloud.clone();
      m.plan.addAll(plan);
      for (int[] s : seen) m.seen.add(s.clone());
      return m;
    }

    boolean there(int aim) { return aim == 5 || aim == 6 || aim >= 0 && aim < stars.size(); }

    int pull(int h) {
      if (walkers.isEmpty()) return 0;
      int lame = h < 5 ? 1 : 2;
      int[] of = {lame - 1, lame, lame + h / 4, lame / 2};
      int p = of[walkers.get(front)];
      return walkers.size() == 3 && p > 0 ? p - 1 : p;
    }

    boolean up(int s, int h) {
      return stars.get(s)[0] <= h && stars.get(s)[1] >= h && !cloud[h];
    }

    /** 0 refused as BAD, 1 as STATE, 2 made, 3 made blind. */
    int step(int aim) {
      if (!there(aim)) return 0;
      if (water == 0 || hour == 10) return 1;
      int h = hour++;
      if (aim == 6) { water--; return 2; }
      if (aim < 5 && up(aim, h)) {
        miles += 3; water--;
        side += pull(h) + (stars.get(aim)[3] == 1 ? 0 : stars.get(aim)[2] - 3);
        return 2;
      }
      if (h < till) { miles += 3; side += pull(h) + 1; water--; return 2; }
      miles += 2; side += 2 * pull(h) + 1; water -= 2;
      if (water < 0) water = 0;
      return 3;
    }

    boolean atWell() { return miles >= well && side <= broad && side >= -broad; }

    /** Blind steps, the first that can not be, then side behind each count of aims from 0 to 8. */
    int[] walk() {
      int[] r = new int[11];
      r[1] = NONE;
      r[2] = side;
      for (int i = 0; i < 8; i++) {
        if (i < plan.size()) {
          int k = step(plan.get(i));
          if (k == 3) r[0]++;
          if (k < 2 && r[1] == NONE) r[1] = i;
        }
        r[3 + i] = side;
      }
      return r;
    }

    Model by() { Model m = copy(); m.walk(); return m; }

    boolean asSeen() {
      int[] r = copy().walk();
      for (int[] s : seen) if (r[2 + s[0]] != s[1]) return false;
      return true;
    }

    Model knowing(int bits) {
      Model m = copy();
      for (int s = 0; s < stars.size(); s++) m.stars.get(s)[3] = bits >> s & 1;
      return m;
    }

    int known() {
      int bits = 0;
      for (int s = 0; s < stars.size(); s++) bits |= stars.get(s)[3] << s;
      return bits;
    }

    int[] best(int n) {
      int rows = 1;
      for (int i = 0; i < n; i++) rows *= 7;
      int[] best = null;
      for (int code = 0; code < rows; code++) {
        int[] r = new int[6];
        int rest = code;
        boolean all = true;
        for (int i = n - 1; i >= 0; i--) { r[2 + i] = rest % 7; rest /= 7; all &= there(r[2 + i]); }
        if (!all) continue;
        int[] was = {hour, miles, side, water};
        for (int i = 0; i < n; i++) step(r[2 + i]);
        r[0] = side; r[1] = miles;
        hour = was[0]; miles = was[1]; side = was[2]; water = was[3];
        if (best == null || Math.abs(r[0]) < Math.abs(best[0])
            || Math.abs(r[0]) == Math.abs(best[0]) && r[1] > best[1]) best = r;
      }
      return best;
    }

    /** Over all clouds of the hours left, sums by ten to their number. */
    BigInteger[] odds(int v, boolean ofMiles) {
      int left = 10 - hour;
      BigInteger sum = BigInteger.ZERO;
      int used = Math.min(left, plan.size());
      for (int bits = 0; bits < 1 << used; bits++) {
        Model m = copy();
        long weight = 1;
        for (int i = 0; i < used; i++) {
          m.cloud[hour + i] = (bits >> i & 1) == 1;
          weight *= m.cloud[hour + i] ? v : 10 - v;
        }
        m.walk();
        sum = sum.add(BigInteger.valueOf(weight * (ofMiles ? m.miles : m.atWell() ? 1 : 0)));
      }
      BigInteger whole = BigInteger.TEN.pow(used);
      BigInteger g = sum.gcd(whole);
      return new BigInteger[] {sum.divide(g), whole.divide(g)};
    }
  }

  /** A reading of a text by a pattern: the model it tells, or its fault and place. */
  private static final class Text {
    private static final Pattern TOKEN = Pattern.compile(" *(?:([a-z]+)|([0-9]+)|(;)|(\\z)|([^ ]))", Pattern.DOTALL);
    final Model m = new Model();
    final String s;
    final Matcher t;
    int fault = 0, place = 0, lines = 0, at = 0;
    String tok;
    int start;

    static final class Stop extends RuntimeException {
      Stop() { super(null, null, false, false); }
    }

    Text(String s) {
      this.s = s;
      t = TOKEN.matcher(s);
      try { all(); } catch (Stop e) { lines = -10 - place; }
    }

    void stop(int f, int p) { fault = f; place = p; throw new Stop(); }

    void token() {
      t.find(at);
      at = t.end();
      for (int g = 1; g <= 5; g++) {
        if (t.group(g) != null) {
          tok = t.group(g);
          start = t.start(g);
          if (g == 5 || g == 2 && tok.length() > 2) stop(1, start);
        }
      }
    }

    boolean number() { return !tok.isEmpty() && Character.isDigit(tok.charAt(0)); }

    int num(int lo, int hi) {
      token();
      if (!number()) stop(2, start);
      int v = Integer.parseInt(tok);
      if (v < lo || v > hi) stop(3, start);
      return v;
    }

    void semi() { token(); if (!tok.equals(";")) stop(2, start); }

    void all() {
      List<String> once = new ArrayList<>();
      boolean[] known = new boolean[5];
      List<String> kinds = Arrays.asList("plain", "lame", "tired", "guide");
      List<String> single = Arrays.asList("well", "wind", "water", "plan");
      for (token(); !tok.isEmpty(); token()) {
        String name = tok;
        if (once.contains(name)) stop(4, start);
        if (single.contains(name)) once.add(name);
        if (name.equals("star")) {
          if (m.stars.size() == 5) stop(5, start);
          int f = num(0, 9), to = num(f, 9), off = num(0, 6);
          m.stars.add(new int[] {f, to, off, 0});
        } else if (kinds.contains(name)) {
          if (m.walkers.size() == 3) stop(5, start);
          m.walkers.add(kinds.indexOf(name));
        } else if (name.equals("known")) {
          int v = num(0, 4);
          if (known[v]) stop(4, start);
          known[v] = true;
        } else if (name.equals("well")) {
          m.well = num(1, 40);
          m.broad = num(0, 9);
        } else if (name.equals("wind")) {
          m.till = num(0, 10);
        } else if (name.equals("water")) {
          m.water = num(0, 99);
        } else if (name.equals("cloud")) {
          int v = num(0, 9);
          if (m.cloud[v]) stop(4, start);
          m.cloud[v] = true;
        } else if (name.equals("plan")) {
          for (token(); number(); token()) {
            int v = Integer.parseInt(tok);
            if (v > 6) stop(3, start);
            if (m.plan.size() == 8) stop(5, start);
            m.plan.add(v);
          }
          if (!tok.equals(";")) stop(2, start);
          lines++;
          continue;
        } else {
          stop(2, start);
        }
        semi();
        lines++;
      }
      for (int i = 0; i < 5; i++) {
        if (known[i] && i >= m.stars.size()) stop(6, s.length());
        if (known[i]) m.stars.get(i)[3] = 1;
      }
      for (int aim : m.plan) if (!m.there(aim)) stop(6, s.length());
    }
  }

  // ---- the calls, by the model

  private Model m = new Model();
  private final Model[] images = new Model[2];
  private final StringBuilder tape = new StringBuilder();
  private final Object[] sheets = new Object[4];
  private int fault = 0, torn = 0;

  private static int one(boolean is) { return is ? 1 : 0; }
  private static boolean in(int v, int lo, int hi) { return v >= lo && v <= hi; }

  private long text() {
    Text t = new Text(tape.toString());
    tape.setLength(0);
    fault = t.fault;
    if (fault == 0) {
      m = t.m;
      images[0] = images[1] = null;
    }
    return t.lines;
  }

  private long rule(int what) {
    int bits = 0;
    for (int h = 0; h < 10; h++) bits |= one(m.cloud[h]) << h;
    int[] all = {m.stars.size(), m.walkers.size(), m.front, m.well, m.broad, m.till, m.water, bits,
      m.hour, m.miles, 1000 + m.side, one(m.atWell()), m.plan.size()};
    return in(what, 0, 12) ? all[what] : BAD;
  }

  private long set(int what, int v) {
    int[][] bounds = {{0, m.walkers.size() - 1}, {1, 40}, {0, 9}, {0, 10}, {0, 99}};
    if (!in(what, 2, 6) || !in(v, bounds[what - 2][0], bounds[what - 2][1])) return BAD;
    long was = rule(what);
    if (what == 2) m.front = v;
    if (what == 3) m.well = v;
    if (what == 4) m.broad = v;
    if (what == 5) m.till = v;
    if (what == 6) m.water = v;
    return was;
  }

  private long next() {
    if (m.water == 0 || m.hour == 10) return STATE;
    int best = -1, side = 0, miles = 0;
    for (int aim = 0; aim <= 5; aim++) {
      Model c = m.copy();
      if (c.step(aim) < 2) continue;
      int d = Math.abs(c.side) - Math.abs(side);
      if (best < 0 || d < 0 || d == 0 && c.miles > miles) { best = aim; side = c.side; miles = c.miles; }
    }
    return best;
  }

  private long best(int n, int what) {
    if (!in(n, 0, 4) || what < 0 || in(what, 2, 9)) return BAD;
    if (what >= 10 && what - 10 >= n) return NONE;
    int[] r = m.best(n);
    return what == 0 ? 1000 + r[0] : what == 1 ? r[1] : r[2 + what - 10];
  }

  private long runs(int what) {
    Model c = m.copy();
    int[] r = c.walk();
    int[] all = {c.miles, 1000 + c.side, c.water, c.hour, r[0], one(c.atWell()), r[1]};
    return in(what, 0, 6) ? all[what] : BAD;
  }

  private long front(int what) {
    if (!in(what, 0, 1)) return BAD;
    int who = NONE, side = 1000;
    for (int w = 0; w < m.walkers.size(); w++) {
      Model c = m.copy();
      c.front = w;
      c.walk();
      if (Math.abs(c.side) < Math.abs(side)) { who = w; side = c.side; }
    }
    return who == NONE || what == 0 ? who : 1000 + side;
  }

  private long lessons(int what) {
    if (!in(what, 0, 1)) return BAD;
    for (int size = 0; size <= 5; size++) {
      for (int set = 0; set < 1 << m.stars.size(); set++) {
        if (Integer.bitCount(set) != size || (set & m.known()) != 0) continue;
        Model c = m.knowing(m.known() | set).by();
        if (Math.abs(c.side) <= c.broad) return what == 0 ? size : set;
      }
    }
    return NONE;
  }

  private long thirst() {
    for (int w = 0; w <= 40; w++) {
      Model c = m.copy();
      c.water = w;
      if (c.walk()[1] == NONE) return w;
    }
    return NONE;
  }

  private long weather() {
    if (m.by().atWell()) return 0;
    int bits = 0;
    for (int h = 0; h < 10; h++) {
      Model c = m.copy();
      c.cloud[h] ^= true;
      bits |= one(c.by().atWell()) << h;
    }
    return bits;
  }

  private long odds(int v, int what, boolean ofMiles) {
    if (!in(v, 0, 10) || !in(what, 0, 1)) return BAD;
    return m.odds(v, ofMiles)[what].longValueExact();
  }

  private long aims(int i) {
    if (!in(i, 0, m.plan.size() - 1)) return BAD;
    int bits = 0;
    for (int aim = 0; aim < 7; aim++) {
      Model c = m.copy();
      c.plan.set(i, aim);
      bits |= one(m.there(aim) && c.asSeen()) << aim;
    }
    return bits;
  }

  private long whose() {
    int bits = 0;
    for (int w = 0; w < m.walkers.size(); w++) {
      Model c = m.copy();
      c.front = w;
      bits |= one(c.asSeen()) << w;
    }
    return bits;
  }

  private long fits(int what) {
    if (!in(what, 0, 1)) return BAD;
    List<Integer> sets = new ArrayList<>();
    for (int set = 0; set < 1 << m.stars.size(); set++) if (m.knowing(set).asSeen()) sets.add(set);
    return what == 0 ? sets.size() : sets.isEmpty() ? NONE : sets.get(0);
  }

  private long drift(int seed, int n, int what) {
    if (!in(n, 1, 30) || !in(what, 0, 1)) return BAD;
    Model c = m.copy();
    c.miles = c.side = 0;
    for (int i = 0; i < n; i++) {
      seed = seed * 1103515245 + 12345;
      int aim = (seed >> 16 & 0x7fff) % 7;
      c.hour = i % 10;
      c.water = 50;
      c.step(c.there(aim) ? aim : 5);
    }
    return what == 0 ? c.miles : 1000 + c.side;
  }

  private long sheet(int k, int lane, int n) {
    if (!in(k, 0, 3) || !in(lane, 0, 2) || n > 40) return BAD;
    if (n < 0) return -14;
    sheets[k] = lane == 0 ? new byte[n] : lane == 1 ? new short[n] : new int[n];
    return 1;
  }

  private long lay(int k, int i, int v) {
    if (!in(k, 0, 3)) return BAD;
    if (sheets[k] == null) return -11;
    if (!in(i, 0, java.lang.reflect.Array.getLength(sheets[k]) - 1)) return -12;
    if (sheets[k] instanceof byte[] b) b[i] = (byte) v;
    if (sheets[k] instanceof short[] s) s[i] = (short) v;
    if (sheets[k] instanceof int[] s) s[i] = v;
    return 1;
  }

  private int cell(Object row, int lane, int i) {
    if (lane == 0) return ((byte[]) row)[i];
    if (lane == 1) return ((short[]) row)[i];
    return ((int[]) row)[i];
  }

  /** Here the machine itself finds what the class must tell without it. */
  private long read(int k, int lane, int f, int n) {
    if (!in(k, 0, 3) || !in(lane, 0, 2) || !in(n, 0, 10)) return BAD;
    Model c = m.copy();
    for (int i = 0; i < n; i++) {
      int aim;
      try {
        aim = cell(sheets[k], lane, f + i);
      } catch (RuntimeException e) {
        torn = e instanceof NullPointerException ? 1 : e instanceof ClassCastException ? 3 : 2;
        m = c;
        return i;
      }
      if (c.step(aim) < 2) return -20 - i;
    }
    m = c;
    torn = 0;
    return n;
  }

  private long count(int what) {
    int cells = sheets[0] == null ? NONE : java.lang.reflect.Array.getLength(sheets[0]);
    int[] all = {Integer.bitCount(m.known()), m.seen.size(), one(images[0] != null) + one(images[1] != null),
      tape.length(), cells};
    return in(what, 0, 4) ? all[what] : BAD;
  }

  private <T> long shorten(List<T> list, int n) {
    if (!in(n, 0, list.size())) return BAD;
    int had = list.size();
    list.subList(n, had).clear();
    return had;
  }

  private long go(int aim) {
    int k = m.step(aim);
    return k == 0 ? BAD : k == 1 ? STATE : m.miles;
  }

  private long swap(int[] cells, int i, int v) {
    int was = cells[i];
    cells[i] = v;
    return was;
  }

  private boolean isStar(int s) { return in(s, 0, m.stars.size() - 1); }
  private boolean isWalker(int w) { return in(w, 0, m.walkers.size() - 1); }

  private long model(int call, int a, int b, int c, int d) {
    switch (call) {
      case 0: if (!in(a, 0, 127)) return BAD;
        if (tape.length() >= 160) return FULL;
        return tape.append((char) a).length();
      case 1: if (!in(a, 0, tape.length())) return BAD;
        int had = tape.length();
        tape.setLength(a);
        return had;
      case 2: return text();
      case 3: return fault;
      case 4: return rule(a);
      case 5: return isStar(a) && in(b, 0, 3) ? m.stars.get(a)[b] : BAD;
      case 6: return isWalker(a) ? m.walkers.get(a) : BAD;
      case 7: return in(a, 0, m.plan.size() - 1) ? m.plan.get(a) : BAD;
      case 8: return set(a, b);
      case 9: if (!in(a, 0, 9)) return BAD;
        boolean was = m.cloud[a];
        m.cloud[a] = b > 0;
        return one(was);
      case 10: return isStar(a) ? swap(m.stars.get(a), 3, one(b > 0)) : BAD;
      case 11: return isStar(a) && in(b, 0, 6) ? swap(m.stars.get(a), 2, b) : BAD;
      case 12: return isWalker(a) && in(b, 0, 3) ? m.walkers.set(a, b) : BAD;
      case 13: if (!m.there(a)) return BAD;
        if (m.plan.size() == 8) return FULL;
        m.plan.add(a);
        return m.plan.size();
      case 14: return shorten(m.plan, a);
      case 15: return in(a, 0, 9) ? m.pull(a) : BAD;
      case 16: if (!in(a, 0, 9)) return BAD;
        int up = 0;
        for (int s = 0; s < m.stars.size(); s++) up += one(m.up(s, a)) << s;
        return up;
      case 17: return go(a);
      case 18: return runs(a);
      case 19: return next();
      case 20: return best(a, b);
      case 21: return front(a);
      case 22: return lessons(a);
      case 23: return thirst();
      case 24: return weather();
      case 25: return odds(a, b, false);
      case 26: return odds(a, b, true);
      case 27: if (!in(a, 0, 8) || !in(b, -99, 99)) return BAD;
        if (m.seen.size() == 6) return FULL;
        m.seen.add(new int[] {a, b});
        return m.seen.size();
      case 28: return shorten(m.seen, a);
      case 29: return aims(a);
      case 30: return whose();
      case 31: return fits(a);
      case 32: return drift(a, b, c);
      case 33: if (!in(a, 0, 1)) return BAD;
        boolean kept = images[a] != null;
        images[a] = m.copy();
        return one(kept);
      case 34: if (!in(a, 0, 1)) return BAD;
        if (images[a] == null) return STATE;
        m = images[a].copy();
        return m.hour;
      case 35: return sheet(a, b, c);
      case 36: return lay(a, b, c);
      case 37: return read(a, b, c, d);
      case 38: return torn;
      default: return count(a);
    }
  }

  private static long program(StarWalk x, int call, int a, int b, int c, int d) {
    switch (call) {
      case 0: return x.feed(a);
      case 1: return x.end(a);
      case 2: return x.text();
      case 3: return x.fault();
      case 4: return x.rule(a);
      case 5: return x.star(a, b);
      case 6: return x.walker(a);
      case 7: return x.plan(a);
      case 8: return x.set(a, b);
      case 9: return x.cloud(a, b > 0);
      case 10: return x.know(a, b > 0);
      case 11: return x.turn(a, b);
      case 12: return x.teach(a, b);
      case 13: return x.plans(a);
      case 14: return x.cut(a);
      case 15: return x.pull(a);
      case 16: return x.up(a);
      case 17: return x.go(a);
      case 18: return x.runs(a);
      case 19: return x.next();
      case 20: return x.best(a, b);
      case 21: return x.front(a);
      case 22: return x.lessons(a);
      case 23: return x.thirst();
      case 24: return x.weather();
      case 25: return x.luck(a, b);
      case 26: return x.mean(a, b);
      case 27: return x.see(a, b);
      case 28: return x.forget(a);
      case 29: return x.aims(a);
      case 30: return x.whose();
      case 31: return x.fits(a);
      case 32: return x.drift(a, b, c);
      case 33: return x.keep(a);
      case 34: return x.back(a);
      case 35: return x.sheet(a, b, c);
      case 36: return x.lay(a, b, c);
      case 37: return x.read(a, b, c, d);
      case 38: return x.torn();
      default: return x.count(a);
    }
  }

  // ---- random runs

  private static final int[] WILD = {Integer.MIN_VALUE, Integer.MAX_VALUE, -1000, 1000, -1, 41, 100, 65536 + 5, 256 + 6};
  private static final String[] NAMES = {"plain", "lame", "tired", "guide"};

  private static int small(Random r, int hi) {
    int kind = r.nextInt(40);
    if (kind == 0) return WILD[r.nextInt(WILD.length)];
    if (kind == 1) return -1;
    if (kind == 2) return hi + 1;
    return r.nextInt(hi + 1);
  }

  /** Where each call's numbers mostly lie: the highest of each. */
  private static final int[][] HIGHEST = {
    {127, 0, 0, 0}, {160, 0, 0, 0}, {0, 0, 0, 0}, {0, 0, 0, 0}, {12, 0, 0, 0}, {4, 3, 0, 0}, {2, 0, 0, 0},
    {7, 0, 0, 0}, {6, 20, 0, 0}, {9, 1, 0, 0}, {4, 1, 0, 0}, {4, 6, 0, 0}, {2, 3, 0, 0}, {6, 0, 0, 0},
    {8, 0, 0, 0}, {9, 0, 0, 0}, {9, 0, 0, 0}, {6, 0, 0, 0}, {6, 0, 0, 0}, {0, 0, 0, 0}, {4, 13, 0, 0},
    {1, 0, 0, 0}, {1, 0, 0, 0}, {0, 0, 0, 0}, {0, 0, 0, 0}, {10, 1, 0, 0}, {10, 1, 0, 0}, {8, 12, 0, 0},
    {6, 0, 0, 0}, {7, 0, 0, 0}, {0, 0, 0, 0}, {1, 0, 0, 0}, {1 << 20, 30, 1, 0}, {1, 0, 0, 0},
    {1, 0, 0, 0}, {3, 2, 12, 0}, {3, 11, 6, 0}, {3, 2, 11, 10}, {0, 0, 0, 0}, {4, 0, 0, 0}};

  private static String num(Random r, int hi) {
    int v = r.nextInt(60) == 0 ? r.nextInt(130) : r.nextInt(hi + 1);
    return (v < 10 && r.nextInt(20) == 0 ? "0" : "") + v;
  }

  private static String line(Random r, int stars) {
    switch (r.nextInt(9)) {
      case 0: case 1: int from = r.nextInt(10);
        return "star " + from + " " + (from + r.nextInt(10 - from) - (r.nextInt(40) == 0 ? 1 : 0)) + " " + num(r, 6);
      case 2: return "known " + num(r, stars);
      case 3: return NAMES[r.nextInt(4)];
      case 4: return "well " + num(r, 25) + " " + num(r, 9);
      case 5: return "wind " + num(r, 10);
      case 6: return "water " + num(r, 20);
      case 7: return "cloud " + num(r, 9);
      default: StringBuilder b = new StringBuilder("plan");
        int n = r.nextInt(9) + (r.nextInt(30) == 0 ? 1 : 0);
        for (int i = 0; i < n; i++) b.append(' ').append(r.nextBoolean() ? num(r, 6) : num(r, stars));
        return b.toString();
    }
  }

  private static String randomText(Random r) {
    StringBuilder b = new StringBuilder();
    int stars = r.nextInt(5);
    for (int i = 0; i < stars; i++) {
      int from = r.nextInt(6);
      b.append("star ").append(from).append(' ').append(from + r.nextInt(10 - from)).append(' ').append(r.nextInt(7)).append(';');
    }
    int walkers = r.nextInt(4);
    for (int i = 0; i < walkers; i++) b.append(NAMES[r.nextInt(4)]).append(';');
    int lines = r.nextInt(6);
    for (int i = 0; i < lines; i++) {
      b.append(line(r, stars)).append(r.nextInt(60) == 0 ? " " : ";");
      if (r.nextInt(6) == 0) b.append(' ');
    }
    if (r.nextInt(8) == 0 && b.length() > 0) b.setCharAt(r.nextInt(b.length()), (char) r.nextInt(128));
    if (r.nextInt(12) == 0 && b.length() > 0) b.deleteCharAt(r.nextInt(b.length()));
    return b.toString();
  }

  private static int wrong = 0;
  private static final int[] GOOD = new int[HIGHEST.length];
  private static final int[] FAULTS = new int[7];

  private static boolean same(StarWalk x, ModelTest y, int run, int call, int[] v) {
    long want = y.model(call, v[0], v[1], v[2], v[3]);
    long got = program(x, call, v[0], v[1], v[2], v[3]);
    if (want >= 0) GOOD[call]++;
    if (call == 2) FAULTS[y.fault]++;
    if (got == want) return true;
    wrong++;
    System.out.println("run " + run + ": call " + call + " " + Arrays.toString(v) + " answered " + got + ", the model says " + want);
    return false;
  }

  private static void run(int number) {
    Random r = new Random(number);
    StarWalk x = new StarWalk();
    ModelTest y = new ModelTest();
    int calls = 0;
    String waiting = randomText(r);
    while (calls < CALLS) {
      int call = r.nextInt(HIGHEST.length);
      int[] v = new int[4];
      // The last byte goes with text(): two calls, which may be one more than there is room for.
      if (waiting.length() == 1 && calls + 2 > CALLS) return;
      if (!waiting.isEmpty()) {
        call = 0;
        v[0] = waiting.charAt(0);
        waiting = waiting.substring(1);
        if (waiting.isEmpty() && !same(x, y, number, 0, v)) return;
        if (waiting.isEmpty()) { call = 2; calls++; }
      } else {
        if (call <= 2 && r.nextInt(10) != 0) continue;
        if (call == 2) waiting = randomText(r);
        for (int i = 0; i < 4; i++) v[i] = small(r, HIGHEST[call][i]);
        if (call == 1) v[0] = small(r, y.tape.length());
        if (call == 27 && r.nextInt(4) != 0) v[1] = y.m.copy().walk()[2 + Math.min(8, Math.max(0, v[0]))];
      }
      calls++;
      if (!same(x, y, number, call, v)) return;
    }
  }

  public static void main(String[] args) {
    for (int number = 0; number < RUNS && wrong < 10; number++) {
      run(number);
    }
    for (int call = 0; call < GOOD.length; call++) {
      if (GOOD[call] < 500) { wrong++; System.out.println("call " + call + " was taken only " + GOOD[call] + " times"); }
    }
    for (int f = 0; f < FAULTS.length; f++) {
      if (FAULTS[f] < 20) { wrong++; System.out.println("fault " + f + " was met only " + FAULTS[f] + " times"); }
    }
    System.out.println(RUNS + " runs held against the model, " + wrong + " wrong");
    if (wrong != 0) System.exit(1);
  }
}
