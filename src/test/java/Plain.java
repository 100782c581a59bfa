import java.math.BigInteger;
import java.util.ArrayList;
import java.util.Arrays;
import java.util.HashMap;
import java.util.List;
import java.util.Map;
import java.util.TreeSet;
import java.util.function.IntPredicate;
import java.util.regex.Matcher;
import java.util.regex.Pattern;

/**
 * The document said once more, as slowly and plainly as can be: every start, every set, every height. It keeps nothing but
 * the humps of a land as long as its heights stay, and passes over a year in which no tower comes or goes. RandomRunsTest
 * and others hold the answers of HillSketch against these.
 */
final class Plain {
  static final class L implements Cloneable {
    int w = 4, h = 4, eye, bend, haze = 999;
    int[] z = new int[144];
    List<int[]> things = new ArrayList<>(); // place, tower, from, to
    Map<Integer, List<Integer>> tops = new HashMap<>(), humps = new HashMap<>();

    L copy() {
      L l = new L();
      l.w = w; l.h = h; l.eye = eye; l.bend = bend; l.haze = haze;
      l.z = z.clone();
      l.things = new ArrayList<>(things);
      return l;
    }
    boolean has(int p) { return p >= 0 && p < w * h; }
    void set(int p, int height) {
      z[p] = height;
      tops.clear();
      humps.clear();
    }
  }

  static final class S {
    List<int[]> humps = new ArrayList<>(); // height, marks
    int give, from = 0, to = 99;
    boolean real, half, turned;

    S copy() {
      S s = new S();
      for (int[] h : humps) s.humps.add(h.clone());
      s.give = give; s.from = from; s.to = to; s.real = real; s.half = half; s.turned = turned;
      return s;
    }
    int n() { return humps.size(); }
  }

  static final class All {
    List<L> lands = new ArrayList<>();
    List<S> sketches = new ArrayList<>();
    String tape = "";
    int fault = 0, faultAt = -1;

    All copy() {
      All a = new All();
      for (L l : lands) a.lands.add(l.copy());
      for (S s : sketches) a.sketches.add(s.copy());
      a.tape = tape; a.fault = fault; a.faultAt = faultAt;
      return a;
    }
  }

  All now = new All();
  All[] images = new All[3];

  // texts

  int feed(int a, int b, int c, int d, int e) {
    if (now.tape.length() > 680) return -1;
    StringBuilder s = new StringBuilder(now.tape);
    for (int v : new int[] {a, b, c, d, e}) {
      s.append((char) (v >>> 24)).append((char) (v >> 16 & 255)).append((char) (v >> 8 & 255)).append((char) (v & 255));
    }
    now.tape = s.toString();
    return now.tape.length();
  }

  int end(int n) {
    if (n < 0 || n > now.tape.length()) return -1;
    now.tape = now.tape.substring(0, n);
    return n;
  }

  private static final Pattern TOKEN = Pattern.compile("[a-z]+|[0-9]+|[^a-z0-9 \n]", Pattern.DOTALL);
  private static final Pattern LAND = Pattern.compile("((sNN|hN+|eN|bN|zN|lN|tNNN);)*");
  private static final Pattern SKETCH = Pattern.compile("((uN[ltr]*|gN|o|v|w|f|x|yNN);)*");
  private static final String[] LAND_WORDS = {"size", "s", "heights", "h", "eye", "e", "bend", "b", "haze", "z",
    "lake", "l", "tower", "t"};
  private static final String[] SKETCH_WORDS = {"hump", "u", "lake", "l", "tower", "t", "bare", "r", "give", "g",
    "order", "o", "true", "v", "whole", "w", "half", "f", "turned", "x", "years", "y"};

  private static char code(String token, String[] words) {
    if (token.matches("[0-9]{1,3}")) return 'N';
    if (token.equals(";")) return ';';
    for (int i = 0; i < words.length; i += 2) {
      if (words[i].equals(token)) return words[i + 1].charAt(0);
    }
    return '?';
  }

  int text(int sort, int at) {
    String t = now.tape;
    now.tape = "";
    now.fault = 0;
    now.faultAt = -1;
    if (sort < 0 || sort > 1) return -2;
    int size = sort == 0 ? now.lands.size() : now.sketches.size();
    if (at == -1 ? size == (sort == 0 ? 2 : 4) : at < 0 || at >= size) return -2;
    List<String> tokens = new ArrayList<>();
    List<Integer> places = new ArrayList<>();
    StringBuilder codes = new StringBuilder();
    Matcher m = TOKEN.matcher(t);
    while (m.find()) {
      tokens.add(m.group());
      places.add(m.start());
      codes.append(code(m.group(), sort == 0 ? LAND_WORDS : SKETCH_WORDS));
    }
    Pattern grammar = sort == 0 ? LAND : SKETCH;
    for (int k = 1; k <= codes.length(); k++) {
      Matcher g = grammar.matcher(codes.substring(0, k));
      if (!g.matches() && !g.hitEnd()) return refuse(1, places.get(k - 1));
    }
    if (!grammar.matcher(codes).matches()) return refuse(1, t.length());
    return sort == 0 ? takeLand(tokens, places, at, t.length()) : takeSketch(tokens, places, at, t.length());
  }

  private int refuse(int fault, int at) {
    now.fault = fault;
    now.faultAt = at;
    return -1;
  }

  private int takeLand(List<String> tokens, List<Integer> places, int at, int end) {
    L l = new L();
    int told = 0;
    for (int i = 0; i < tokens.size(); i++) {
      String word = tokens.get(i);
      int begin = i;
      List<Integer> v = new ArrayList<>();
      while (!tokens.get(++i).equals(";")) v.add(Integer.parseInt(tokens.get(i)));
      int[][] range = switch (word) {
        case "size" -> new int[][] {{2, 12}, {2, 12}};
        case "eye" -> new int[][] {{0, 9}};
        case "bend" -> new int[][] {{0, 99}};
        case "haze" -> new int[][] {{1, 999}};
        case "lake" -> new int[][] {{0, 143}};
        case "tower" -> new int[][] {{0, 143}, {0, 99}, {v.size() > 1 ? v.get(1) : 0, 99}};
        default -> new int[0][];
      };
      if ((word.equals("lake") || word.equals("tower")) && l.things.size() == 12) return refuse(3, places.get(begin));
      for (int k = 0; k < range.length; k++) {
        if (v.get(k) < range[k][0] || v.get(k) > range[k][1]) return refuse(2, places.get(begin + 1 + k));
      }
      switch (word) {
        case "size": l.w = v.get(0); l.h = v.get(1); break;
        case "eye": l.eye = v.get(0); break;
        case "bend": l.bend = v.get(0); break;
        case "haze": l.haze = v.get(0); break;
        case "lake": l.things.add(new int[] {v.get(0), 0, 0, 99}); break;
        case "tower": l.things.add(new int[] {v.get(0), 1, v.get(1), v.get(2)}); break;
        default:
          for (int k = 0; k < v.size(); k++) {
            if (told == 144) return refuse(3, places.get(begin + 1 + k));
            l.z[told++] = v.get(k);
          }
      }
    }
    boolean off = told > l.w * l.h;
    for (int[] t : l.things) off |= !l.has(t[0]);
    if (off) return refuse(4, end);
    if (at == -1) now.lands.add(l); else now.lands.set(at, l);
    return at == -1 ? now.lands.size() - 1 : at;
  }

  private int takeSketch(List<String> tokens, List<Integer> places, int at, int end) {
    S s = new S();
    for (int i = 0; i < tokens.size(); i++) {
      String word = tokens.get(i);
      int begin = i;
      while (!tokens.get(++i).equals(";")) { }
      List<String> v = tokens.subList(begin + 1, i);
      switch (word) {
        case "hump": {
          if (s.n() == 12) return refuse(3, places.get(begin));
          int h = Integer.parseInt(v.get(0));
          if (h < 1 || h > 99) return refuse(2, places.get(begin + 1));
          int marks = 0;
          for (int k = 1; k < v.size(); k++) {
            marks |= v.get(k).equals("lake") ? 1 : v.get(k).equals("tower") ? 2 : 4;
            if ((marks & 6) == 6) return refuse(2, places.get(begin + 1 + k));
          }
          s.humps.add(new int[] {h, marks});
          break;
        }
        case "give":
          s.give = Integer.parseInt(v.get(0));
          if (s.give > 99) return refuse(2, places.get(begin + 1));
          break;
        case "years":
          s.from = Integer.parseInt(v.get(0));
          s.to = Integer.parseInt(v.get(1));
          if (s.from > 99) return refuse(2, places.get(begin + 1));
          if (s.to > 99 || s.to < s.from) return refuse(2, places.get(begin + 2));
          break;
        case "order": s.real = false; break;
        case "true": s.real = true; break;
        case "whole": s.half = false; break;
        case "half": s.half = true; break;
        default: s.turned = true;
      }
    }
    if (s.n() == 0) return refuse(4, end);
    return put(s, at);
  }

  private int put(S s, int at) {
    if (at == -1) {
      if (now.sketches.size() == 4) return -1;
      now.sketches.add(s);
      return now.sketches.size() - 1;
    }
    if (at < 0 || at >= now.sketches.size()) return -1;
    now.sketches.set(at, s);
    return at;
  }

  int fault(int what) { return what == 0 ? now.fault : what == 1 ? now.faultAt : -1; }

  // told

  private L l(int i) { return i >= 0 && i < now.lands.size() ? now.lands.get(i) : null; }
  private S s(int i) { return i >= 0 && i < now.sketches.size() ? now.sketches.get(i) : null; }

  int land(int land, int what) {
    L l = l(land);
    if (l == null) return -1;
    int[] plain = {l.w, l.h, l.eye, l.bend, l.haze, l.things.size()};
    if (what >= 0 && what < 6) return plain[what];
    for (int k = 0; k < l.things.size(); k++) {
      for (int f = 0; f < 4; f++) {
        if (what == 10 + 20 * f + k) return l.things.get(k)[f];
      }
    }
    return -1;
  }

  int height(int land, int place) { L l = l(land); return l != null && l.has(place) ? l.z[place] : -1; }

  boolean mend(int land, int place, int height) {
    L l = l(land);
    if (l == null || !l.has(place) || height < 0 || height > 999) return false;
    l.set(place, height);
    return true;
  }

  int sketch(int sketch, int what) {
    S s = s(sketch);
    if (s == null) return -1;
    int[] plain = {s.n(), s.give, s.real ? 1 : 0, s.half ? 1 : 0, s.turned ? 1 : 0, s.from, s.to};
    if (what >= 0 && what < 7) return plain[what];
    for (int i = 0; i < s.n(); i++) {
      if (what == 10 + i) return s.humps.get(i)[0];
      if (what == 30 + i) return s.humps.get(i)[1];
    }
    return -1;
  }

  int count(int what) { return what == 0 ? now.lands.size() : what == 1 ? now.sketches.size() : -2; }
  boolean image(int k) { if (k < 0 || k > 2) return false; images[k] = now.copy(); return true; }
  boolean again(int k) { if (k < 0 || k > 2 || images[k] == null) return false; now = images[k].copy(); return true; }

  // seen

  private static int d(L l, int p, int q) {
    int x = p % l.w - q % l.w, y = p / l.w - q / l.w;
    return x * x + y * y;
  }

  private static int rise(L l, int p, int q) { return l.z[q] - l.bend * d(l, p, q) / 100 - l.z[p] - l.eye; }

  /** The sign of rise(a) / root(d(a)) less rise(b) / root(d(b)). */
  private static int steep(L l, int p, int a, int b) {
    int ra = rise(l, p, a), rb = rise(l, p, b);
    if (Integer.signum(ra) != Integer.signum(rb)) return Integer.compare(Integer.signum(ra), Integer.signum(rb));
    BigInteger left = BigInteger.valueOf((long) ra * ra * d(l, p, b));
    BigInteger right = BigInteger.valueOf((long) rb * rb * d(l, p, a));
    return ra >= 0 ? left.compareTo(right) : right.compareTo(left);
  }

  private static boolean sameRay(L l, int p, int a, int b) {
    int ax = a % l.w - p % l.w, ay = a / l.w - p / l.w, bx = b % l.w - p % l.w, by = b / l.w - p / l.w;
    return ax * by == ay * bx && ax * bx + ay * by > 0;
  }

  private static boolean seen(L l, int p, int q) {
    if (p == q || d(l, p, q) > l.haze) return false;
    for (int r = 0; r < l.w * l.h; r++) {
      if (r != p && sameRay(l, p, q, r) && d(l, p, r) < d(l, p, q) && steep(l, p, r, q) >= 0) return false;
    }
    return true;
  }

  private static double angle(L l, int p, int q) {
    double a = Math.atan2(q % l.w - p % l.w, p / l.w - q / l.w);
    return a < 0 ? a + 2 * Math.PI : a;
  }

  /** Tops of rays, in order. Angles of different rays are much farther apart than doubles err. */
  private static List<Integer> tops(L l, int p) { return l.tops.computeIfAbsent(p, k -> topsFrom(l, p)); }
  private static List<Integer> humps(L l, int p) { return l.humps.computeIfAbsent(p, k -> humpsFrom(l, p)); }

  private static List<Integer> topsFrom(L l, int p) {
    List<Integer> tops = new ArrayList<>();
    for (int q = 0; q < l.w * l.h; q++) {
      if (q == p || d(l, p, q) > l.haze) continue;
      boolean top = true;
      for (int r = 0; r < l.w * l.h && top; r++) {
        if (r == p || r == q || !sameRay(l, p, q, r) || d(l, p, r) > l.haze) continue;
        int s = steep(l, p, r, q);
        if (s > 0 || s == 0 && d(l, p, r) < d(l, p, q)) top = false;
      }
      if (top) tops.add(q);
    }
    tops.sort((a, b) -> Double.compare(angle(l, p, a), angle(l, p, b)));
    return tops;
  }

  private static List<Integer> humpsFrom(L l, int p) {
    List<Integer> t = tops(l, p), humps = new ArrayList<>();
    int n = t.size();
    if (n < 3) return humps;
    for (int k = 0; k < n; k++) {
      if (steep(l, p, t.get(k), t.get((k + n - 1) % n)) > 0 && steep(l, p, t.get(k), t.get((k + 1) % n)) >= 0) {
        humps.add(t.get(k));
      }
    }
    return humps;
  }

  private static boolean ok(L l, int... ps) {
    if (l == null) return false;
    for (int p : ps) if (!l.has(p)) return false;
    return true;
  }

  private static int pick(List<Integer> list, int k) {
    return k == -1 ? list.size() : k >= 0 && k < list.size() ? list.get(k) : -1;
  }

  int rise(int land, int p, int q) { return ok(l(land), p, q) && p != q ? rise(l(land), p, q) : -10000; }
  int seen(int land, int p, int q) { return ok(l(land), p, q) && p != q ? seen(l(land), p, q) ? 1 : 0 : -1; }
  int ray(int land, int p, int k) { return ok(l(land), p) ? pick(tops(l(land), p), k) : -1; }
  int hump(int land, int p, int k) { return ok(l(land), p) ? pick(humps(l(land), p), k) : -1; }

  int steeper(int land, int p, int i, int k) {
    if (!ok(l(land), p)) return -2;
    List<Integer> h = humps(l(land), p);
    if (i < 0 || k < 0 || i >= h.size() || k >= h.size()) return -2;
    return steep(l(land), p, h.get(i), h.get(k));
  }

  int sees(int land, int p) {
    if (!ok(l(land), p)) return -1;
    int n = 0;
    for (int q = 0; q < l(land).w * l(land).h; q++) if (seen(l(land), p, q)) n++;
    return n;
  }

  int most(int land) {
    if (l(land) == null) return -1;
    int best = 0;
    for (int p = 0; p < l(land).w * l(land).h; p++) if (sees(land, p) > sees(land, best)) best = p;
    return best;
  }

  // fits

  private static boolean pair(L l, S s, int p, int[] top, int i, int k) {
    int hi = s.humps.get(i)[0], hk = s.humps.get(k)[0], a = top[i], b = top[k];
    if (!s.real) {
      if (Math.abs(hi - hk) <= s.give) return true;
      return hi > hk ? steep(l, p, a, b) > 0 : steep(l, p, b, a) > 0;
    }
    int ri = rise(l, p, a), rk = rise(l, p, b);
    if (ri <= 0 || rk <= 0) return false;
    BigInteger both = BigInteger.valueOf(1);
    BigInteger one = both.multiply(BigInteger.valueOf((long) hi * hi)).multiply(BigInteger.valueOf((long) rk * rk * d(l, p, a)));
    BigInteger two = both.multiply(BigInteger.valueOf((long) hk * hk)).multiply(BigInteger.valueOf((long) ri * ri * d(l, p, b)));
    return one.subtract(two).abs().multiply(BigInteger.valueOf(100)).compareTo(two.multiply(BigInteger.valueOf(s.give))) <= 0;
  }

  private static boolean own(L l, S s, int p, int[] top, int i, int year) {
    int marks = s.humps.get(i)[1];
    boolean tower = false;
    for (int[] t : l.things) tower |= t[1] == 1 && t[0] == top[i] && t[2] <= year && year <= t[3];
    if ((marks & 2) != 0 && !tower || (marks & 4) != 0 && tower) return false;
    if ((marks & 1) == 0 || i == 0) return true;
    double from = angle(l, p, top[i - 1]), to = angle(l, p, top[i]);
    for (int[] t : l.things) {
      if (t[1] == 1 || !seen(l, p, t[0])) continue;
      if (sameRay(l, p, t[0], top[i]) || sameRay(l, p, t[0], top[i - 1])) continue;
      double at = angle(l, p, t[0]);
      double whole = 2 * Math.PI;
      double turn = s.turned ? (from - at + whole) % whole : (at - from + whole) % whole;
      double full = s.turned ? (from - to + whole) % whole : (to - from + whole) % whole;
      if (turn < full) return true;
    }
    return false;
  }

  /** The tops that the sketch's humps are from a start on, null if n can't be. */
  private static int[] stand(S s, List<Integer> humps, int start) {
    int m = humps.size();
    if (!(s.n() == m || s.half && s.n() < m)) return null;
    int[] top = new int[s.n()];
    for (int i = 0; i < s.n(); i++) top[i] = humps.get(Math.floorMod(s.turned ? start - i : start + i, m));
    return top;
  }

  private static int firstIn(L l, S s, int p, int[] top, int year) {
    for (int i = 0; i < s.n(); i++) {
      boolean fits = own(l, s, p, top, i, year);
      for (int k = 0; k < i && fits; k++) fits = pair(l, s, p, top, i, k);
      if (!fits) return i;
    }
    return s.n();
  }

  private static int first(L l, S s, int p, List<Integer> humps, int start, int year) {
    int[] top = stand(s, humps, start);
    if (top == null) return 0;
    if (year >= 0) return firstIn(l, s, p, top, year);
    int best = 0;
    for (int y = s.from; y <= s.to && best < s.n(); y++) {
      if (y == s.from || changes(l, y)) best = Math.max(best, firstIn(l, s, p, top, y));
    }
    return best;
  }

  /** Whether in that year a tower stands that did not stand the year ahead, or the other way. */
  private static boolean changes(L l, int year) {
    for (int[] t : l.things) if (t[1] == 1 && (t[2] == year || t[3] + 1 == year)) return true;
    return false;
  }

  private static int fits(L l, S s, int p, int year) {
    List<Integer> humps = humps(l, p);
    if (stand(s, humps, 0) == null || humps.isEmpty()) return -1;
    for (int start = 0; start < humps.size(); start++) {
      if (first(l, s, p, humps, start, year) == s.n()) return start;
    }
    return -1;
  }

  private static List<Integer> where(L l, S s, int year) {
    List<Integer> where = new ArrayList<>();
    for (int p = 0; p < l.w * l.h; p++) if (fits(l, s, p, year) >= 0) where.add(p);
    return where;
  }

  int first(int land, int sketch, int p, int start, int year) {
    if (!ok(l(land), p) || s(sketch) == null || year < -1 || year > 99) return -1;
    List<Integer> humps = humps(l(land), p);
    return start < 0 || start >= humps.size() ? -1 : first(l(land), s(sketch), p, humps, start, year);
  }

  int fits(int land, int sketch, int p, int year) {
    if (!ok(l(land), p) || s(sketch) == null || year < -1 || year > 99) return -1;
    return fits(l(land), s(sketch), p, year);
  }

  int where(int land, int sketch, int year, int k) {
    if (l(land) == null || s(sketch) == null || year < -1 || year > 99) return -1;
    return pick(where(l(land), s(sketch), year), k);
  }

  private List<Integer> hillsOf(int land, int sketch, int i) {
    L l = l(land);
    S s = s(sketch);
    if (l == null || s == null || i < 0 || i >= s.n()) return null;
    TreeSet<Integer> hills = new TreeSet<>();
    for (int p = 0; p < l.w * l.h; p++) {
      List<Integer> humps = humps(l, p);
      for (int start = 0; start < humps.size(); start++) {
        if (first(l, s, p, humps, start, -1) == s.n()) hills.add(stand(s, humps, start)[i]);
      }
    }
    return new ArrayList<>(hills);
  }

  int hills(int land, int sketch, int i, int k) {
    List<Integer> hills = hillsOf(land, sketch, i);
    return hills == null ? -1 : pick(hills, k);
  }

  boolean sure(int land, int sketch, int i) {
    List<Integer> hills = hillsOf(land, sketch, i);
    return hills != null && hills.size() == 1;
  }

  int bars(int land, int sketch, int i) {
    L l = l(land);
    S s = s(sketch);
    if (l == null || s == null || i < 0 || i >= s.n()) return -1;
    int bars = 0;
    for (int p = 0; p < l.w * l.h; p++) {
      List<Integer> humps = humps(l, p);
      int best = 0;
      for (int start = 0; start < humps.size(); start++) best = Math.max(best, first(l, s, p, humps, start, -1));
      if (best == i) bars++;
    }
    return bars;
  }

  int doubt(int land, int sketch) {
    L l = l(land);
    S s = s(sketch);
    if (l == null || s == null || s.n() > 8) return -1;
    int best = -1;
    for (int set = 0; set < 1 << s.n(); set++) {
      if (best >= 0 && Integer.bitCount(set) >= Integer.bitCount(best)) continue;
      for (int p = 0; p < l.w * l.h; p++) {
        if (doubted(l, s, p, set)) {
          best = set;
          break;
        }
      }
    }
    return best;
  }

  private static boolean doubted(L l, S s, int p, int set) {
    List<Integer> humps = humps(l, p);
    for (int start = 0; start < humps.size(); start++) {
      int[] top = stand(s, humps, start);
      if (top == null) return false;
      for (int y = s.from; y <= s.to; y++) {
        if (y > s.from && !changes(l, y)) continue;
        boolean fits = true;
        for (int i = 0; i < s.n() && fits; i++) {
          if ((set >> i & 1) == 1) continue;
          fits = own(l, s, p, top, i, y);
          for (int k = 0; k < i && fits; k++) fits = (set >> k & 1) == 1 || pair(l, s, p, top, i, k);
        }
        if (fits) return true;
      }
    }
    return false;
  }

  int since(int land, int sketch, boolean until) {
    L l = l(land);
    S s = s(sketch);
    if (l == null || s == null) return -1;
    int found = -1;
    for (int y = s.from; y <= s.to; y++) {
      if (!where(l, s, y).isEmpty()) {
        if (!until) return y;
        found = y;
      }
    }
    return found;
  }

  int pairs(int land, int one, int other, int far) {
    L l = l(land);
    if (l == null || s(one) == null || s(other) == null || far < 0 || far > 999) return -1;
    int n = 0;
    List<Integer> others = where(l, s(other), -1);
    for (int p : where(l, s(one), -1)) for (int q : others) if (d(l, p, q) <= far) n++;
    return n;
  }

  /** The fewest steps, by widening what can be come at. */
  private static int walk(L l, List<Integer> from, List<Integer> to, int c, IntPredicate open) {
    int[] at = new int[l.w * l.h];
    Arrays.fill(at, -1);
    for (int p : from) if (open.test(p)) at[p] = 0;
    for (int step = 0; step <= l.w * l.h; step++) {
      for (int q : to) if (at[q] == step) return step;
      for (int p = 0; p < at.length; p++) {
        for (int q = 0; q < at.length; q++) {
          if (at[p] == step && at[q] == -1 && d(l, p, q) == 1 && open.test(q) && Math.abs(l.z[p] - l.z[q]) <= c) at[q] = step + 1;
        }
      }
    }
    return -1;
  }

  int way(int land, int one, int other, int c) {
    L l = l(land);
    if (l == null || s(one) == null || s(other) == null || c < 0 || c > 999) return -1;
    return walk(l, where(l, s(one), -1), where(l, s(other), -1), c, p -> true);
  }

  int sneak(int land, int a, int b, int p) {
    L l = l(land);
    if (!ok(l, a, b, p)) return -1;
    return walk(l, List.of(a), List.of(b), 999, q -> q != p && !seen(l, p, q));
  }

  // drawn

  private static S drawn(L l, int p, int start, int n, int most) {
    List<Integer> humps = humps(l, p);
    int m = humps.size();
    if (start < 0 || start >= m || n < 1 || n > m || n > most) return null;
    S s = new S();
    s.half = n < m;
    for (int i = 0; i < n; i++) {
      int less = 0;
      for (int k = 0; k < n; k++) {
        if (steep(l, p, humps.get((start + i) % m), humps.get((start + k) % m)) > 0) less++;
      }
      s.humps.add(new int[] {1 + less, 0});
    }
    return s;
  }

  int draw(int land, int p, int start, int n, int at) {
    S s = ok(l(land), p) ? drawn(l(land), p, start, n, 12) : null;
    return s == null ? -1 : put(s, at);
  }

  private static int rivals(L l, S s, int p) {
    List<Integer> where = where(l, s, -1);
    return where.size() - (where.contains(p) ? 1 : 0);
  }

  int rivals(int land, int p, int start, int n) {
    S s = ok(l(land), p) ? drawn(l(land), p, start, n, 12) : null;
    return s == null ? -1 : rivals(l(land), s, p);
  }

  int known(int land, int p) {
    if (!ok(l(land), p)) return -1;
    int m = humps(l(land), p).size();
    for (int n = 1; n <= Math.min(m, 12); n++) {
      for (int start = 0; start < m; start++) if (rivals(land, p, start, n) == 0) return n;
    }
    return -1;
  }

  private static S scrawled(L l, int p, int start, int n, int seed, int e) {
    S s = drawn(l, p, start, n, 9);
    if (s == null || e < 0 || e > 20) return null;
    long x = seed & 0xffffffffL;
    for (int[] hump : s.humps) {
      x = (x * 1103515245L + 12345L) & 0xffffffffL;
      hump[0] = Math.max(1, Math.min(99, 10 * hump[0] + (int) ((x >> 16) % (2 * e + 1)) - e));
    }
    s.give = 2 * e;
    return s;
  }

  int scrawl(int land, int p, int start, int n, int seed, int e, int at) {
    S s = ok(l(land), p) ? scrawled(l(land), p, start, n, seed, e) : null;
    return s == null ? -1 : put(s, at);
  }

  int found(int land, int p, int start, int n, int seed, int e, int w, boolean alone) {
    if (!ok(l(land), p) || w < 1 || w > 8) return -1;
    int found = 0;
    for (int k = 0; k < w; k++) {
      S s = scrawled(l(land), p, start, n, seed + k, e);
      if (s == null) return -1;
      List<Integer> where = where(l(land), s, -1);
      if (where.contains(p) && (!alone || where.size() == 1)) found++;
    }
    return found;
  }

  // what if

  int lacks(int land, int sketch, int p, int c) {
    if (!ok(l(land), p, c) || s(sketch) == null || p == c) return -1;
    L l = l(land).copy();
    for (int h = 0; h <= 999; h++) {
      l.set(c, h);
      if (fits(l, s(sketch), p, -1) >= 0) return h;
    }
    return -1;
  }

  int shift(int land, int c, int h) {
    if (!ok(l(land), c) || h < 0 || h > 999) return -1;
    L l = l(land).copy();
    l.set(c, h);
    int n = 0;
    for (int p = 0; p < l.w * l.h; p++) if (humps(l, p).size() != humps(l(land), p).size()) n++;
    return n;
  }

  int stretch(int land, int sketch, int p, int start, boolean most, boolean under) {
    L l = l(land);
    S s = s(sketch);
    if (!ok(l, p) || s == null) return -1;
    List<Integer> humps = humps(l, p);
    if (start < 0 || start >= humps.size()) return -1;
    int[] top = stand(s, humps, start);
    if (top == null) return -1;
    BigInteger[] best = null;
    for (int i = 0; i < s.n(); i++) {
      int r = rise(l, p, top[i]);
      if (r <= 0) continue;
      BigInteger a = BigInteger.valueOf((long) s.humps.get(i)[0] * s.humps.get(i)[0] * d(l, p, top[i]));
      BigInteger b = BigInteger.valueOf((long) r * r);
      int c = best == null ? 0 : a.multiply(best[1]).compareTo(best[0].multiply(b));
      if (best == null || (most ? c > 0 : c < 0)) best = new BigInteger[] {a, b};
    }
    if (best == null) return -1;
    return best[under ? 1 : 0].divide(best[0].gcd(best[1])).intValueExact();
  }

  private static int wrong(L l, S s, int p, int[] top) {
    int n = 0;
    for (int i = 0; i < s.n(); i++) for (int k = 0; k < i; k++) if (!pair(l, s, p, top, i, k)) n++;
    return n;
  }

  int wrong(int land, int sketch, int p, int start) {
    L l = l(land);
    S s = s(sketch);
    if (!ok(l, p) || s == null) return -1;
    List<Integer> humps = humps(l, p);
    if (start < 0 || start >= humps.size()) return -1;
    int[] top = stand(s, humps, start);
    return top == null ? -1 : wrong(l, s, p, top);
  }

  int nearest(int land, int sketch, boolean much) {
    if (l(land) == null || s(sketch) == null) return -1;
    int best = -1, at = -1;
    for (int p = 0; p < l(land).w * l(land).h; p++) {
      int m = humps(l(land), p).size();
      for (int start = 0; start < m; start++) {
        int w = wrong(land, sketch, p, start);
        if (w >= 0 && (at == -1 || w < best)) {
          best = w;
          at = p;
        }
      }
    }
    return much ? best : at;
  }

  int differs(int land, int other, int p) {
    if (!ok(l(land), p) || !ok(l(other), p)) return -1;
    List<Integer> one = new ArrayList<>(humps(l(land), p));
    one.removeAll(humps(l(other), p));
    return one.size();
  }

  int hidden(int land) {
    L l = l(land);
    if (l == null) return -1;
    int n = 0;
    for (int q = 0; q < l.w * l.h; q++) {
      boolean any = false;
      for (int p = 0; p < l.w * l.h; p++) any |= seen(l, p, q);
      if (!any) n++;
    }
    return n;
  }

  int guards(int land, int k) {
    L l = l(land);
    if (l == null) return -1;
    int n = l.w * l.h;
    BigInteger[] watch = new BigInteger[n];
    for (int p = 0; p < n; p++) {
      watch[p] = BigInteger.ZERO.setBit(p);
      for (int q = 0; q < n; q++) if (seen(l, p, q)) watch[p] = watch[p].setBit(q);
    }
    List<Integer> best = null;
    for (int size = 1; size <= 3 && best == null; size++) {
      search:
      for (int a = 0; a < n; a++) {
        for (int b = a; b < n; b++) {
          for (int c = b; c < n; c++) {
            if (size == 1 && (b != a || c != a) || size == 2 && (b == a || c != b) || size == 3 && (b == a || c == b)) continue;
            if (watch[a].or(watch[b]).or(watch[c]).bitCount() == n) {
              best = List.of(a, b, c).subList(0, size);
              break search;
            }
          }
        }
      }
    }
    return best == null ? -1 : pick(best, k);
  }

  int proud(int land, int p) {
    L l = l(land);
    if (!ok(l, p)) return -1;
    List<Integer> higher = new ArrayList<>();
    for (int q = 0; q < l.w * l.h; q++) if (l.z[q] > l.z[p]) higher.add(q);
    if (higher.isEmpty()) return l.z[p];
    for (int h = l.z[p]; ; h--) {
      int least = h;
      if (walk(l, List.of(p), higher, 999, q -> l.z[q] >= least) >= 0) return l.z[p] - h;
    }
  }

  int peaks(int land) {
    L l = l(land);
    if (l == null) return -1;
    int n = 0;
    for (int p = 0; p < l.w * l.h; p++) {
      boolean peak = true;
      for (int q = 0; q < l.w * l.h; q++) peak &= d(l, p, q) != 1 || l.z[q] < l.z[p];
      if (peak) n++;
    }
    return n;
  }
}
