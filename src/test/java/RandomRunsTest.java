import java.util.Random;

/** Random runs of calls, the answers of HillSketch held against those of Plain. */
public final class RandomRunsTest {
  private static int wrong = 0;
  private static final StringBuilder LOG = new StringBuilder();
  private static HillSketch x;
  private static Plain y;
  private static Random random;

  private static void same(String call, long got, long want) {
    LOG.append(call).append(" = ").append(got).append('\n');
    if (got != want) {
      if (wrong < 3) System.out.println(LOG + "  due is " + want);
      wrong++;
    }
  }

  private static void same(String call, boolean got, boolean want) { same(call, got ? 1 : 0, want ? 1 : 0); }

  private static int below(int n) { return random.nextInt(n); }

  private static final int[] ODD = {-1, -2, 0, 1, 99, 100, 143, 144, 999, 1000, Integer.MAX_VALUE, Integer.MIN_VALUE};

  /** Mostly one that there is, now and then one that is not. */
  private static int number(int n) { return below(25) == 0 ? ODD[below(ODD.length)] : n < 1 ? 0 : below(n); }

  private static void tell(String text) {
    int fed = (text.length() + 19) / 20 * 20;
    String padded = text + "\0".repeat(fed - text.length());
    for (int i = 0; i < fed; i += 20) {
      int[] v = new int[5];
      for (int k = 0; k < 20; k++) v[k / 4] = v[k / 4] << 8 | padded.charAt(i + k);
      same("feed", x.feed(v[0], v[1], v[2], v[3], v[4]), y.feed(v[0], v[1], v[2], v[3], v[4]));
    }
    if (fed != text.length()) same("end", x.end(text.length()), y.end(text.length()));
  }

  private static void read(String text, int sort, int at) {
    tell(text);
    LOG.append('"').append(text).append("\"\n");
    same("text(" + sort + ", " + at + ")", x.text(sort, at), y.text(sort, at));
    same("fault(0)", x.fault(0), y.fault(0));
    same("fault(1)", x.fault(1), y.fault(1));
    if (below(8) == 0) same("end(0)", x.end(0), y.end(0));
  }

  private static String landText(int most) {
    StringBuilder s = new StringBuilder();
    int w = 2 + below(most - 1), h = 2 + below(most - 1);
    s.append("size ").append(w).append(' ').append(h).append(";\n");
    if (below(3) == 0) s.append("eye ").append(below(10)).append(';');
    if (below(3) == 0) s.append("bend ").append(below(100)).append(';');
    if (below(3) == 0) s.append("haze ").append(1 + below(below(2) == 0 ? 12 : 60)).append(';');
    int range = new int[] {2, 4, 10, 60, 1000}[below(5)];
    int told = below(4) == 0 ? below(w * h) : w * h;
    if (told > 0) {
      s.append("heights");
      for (int i = 0; i < told && s.length() < 620; i++) {
        s.append(' ').append(below(range));
        if (below(20) == 0 && i + 1 < told) s.append(";heights");
      }
      s.append(';');
    }
    for (int i = below(6); i > 0 && s.length() < 660; i--) {
      if (below(2) == 0) {
        s.append("lake ").append(below(w * h)).append(';');
      } else {
        int from = below(100);
        s.append("tower ").append(below(w * h)).append(' ').append(from).append(' ').append(from + below(100 - from)).append(';');
      }
    }
    return s.toString();
  }

  private static String sketchText() {
    StringBuilder s = new StringBuilder();
    int n = 1 + below(below(6) == 0 ? 12 : 4);
    int range = new int[] {2, 4, 30, 99}[below(4)];
    boolean plain = below(2) == 0;
    for (int i = 0; i < n; i++) {
      s.append("hump ").append(1 + below(range));
      if (!plain && below(4) == 0) s.append(" lake");
      if (!plain && below(5) == 0) s.append(below(2) == 0 ? " bare" : " tower");
      s.append(';');
    }
    if (below(2) == 0) s.append("give ").append(below(100)).append(';');
    if (below(3) == 0) s.append("true;");
    if (below(4) > 0) s.append("half;");
    if (below(3) == 0) s.append("turned;");
    if (below(3) == 0) {
      int from = below(100);
      s.append("years ").append(from).append(' ').append(from + below(100 - from)).append(';');
    }
    return s.toString();
  }

  /** A sketch as one that is there, told again with marks. */
  private static String likeSketch(int k) {
    StringBuilder s = new StringBuilder();
    for (int i = 0; i < y.sketch(k, 0); i++) {
      s.append("hump ").append(y.sketch(k, 10 + i));
      if (below(4) == 0) s.append(" lake");
      if (below(5) == 0) s.append(" tower");
      else if (below(4) == 0) s.append(" bare");
      s.append(';');
    }
    if (y.sketch(k, 3) == 1 || below(3) == 0) s.append("half;");
    if (below(4) == 0) s.append("true;give ").append(90 + below(10)).append(';');
    return s.toString();
  }

  /** A text with something amiss. */
  private static String spoil(String text) {
    String[] bits = {";", " ", "\n", "1000", "0", "999", "13", "lake", "tower", "bare", "hump", "size", "A", "\0", "\u00ff", "x", "  ", "1", "99"};
    StringBuilder s = new StringBuilder(text);
    for (int times = 1 + below(2); times > 0; times--) {
      int at = below(s.length() + 1);
      int way = below(3);
      if (way == 0 && at < s.length()) s.deleteCharAt(at);
      else if (way == 1) s.setLength(at);
      else s.insert(at, bits[below(bits.length)]);
    }
    if (s.length() > 700) s.setLength(700);
    return s.toString();
  }

  private static void tellSomething(int most) {
    int way = below(10);
    if (way < 2) {
      read(landText(most), 0, y.count(0) < 2 ? -1 : below(2));
    } else if (way < 6) {
      read(sketchText(), 1, y.count(1) < 4 ? -1 : below(4));
    } else if (way < 8) {
      read(spoil(below(2) == 0 ? landText(most) : sketchText()), below(2), number(2));
    } else if (y.count(1) > 0) {
      read(likeSketch(below(y.count(1))), 1, below(y.count(1)));
    }
  }

  private static void call() {
    int l = number(y.count(0)), s = number(y.count(1)), s2 = number(y.count(1));
    int places = Math.max(1, y.land(l, 0) * y.land(l, 1));
    int p = number(places), q = number(places), r = number(places);
    int m = Math.max(0, y.hump(l, p, -1)), start = number(m), k = number(below(3) == 0 ? 12 : 4);
    int n = number(Math.max(1, y.sketch(s, 0))), draw = 1 + number(Math.min(m, 12));
    int year = below(2) == 0 ? -1 : number(100), at = below(3) == 0 ? -1 : number(y.count(1));
    boolean one = random.nextBoolean(), two = random.nextBoolean();
    String a = "(l " + l + ", s " + s + ", s2 " + s2 + ", p " + p + ", q " + q + ", r " + r + ", start " + start + ", k " + k
      + ", n " + n + ", draw " + draw + ", year " + year + ", at " + at + ", " + one + ", " + two + ")";
    switch (below(42)) {
      case 0: { int w = number(90); same("land" + a + w, x.land(l, w), y.land(l, w)); break; }
      case 1: same("height" + a, x.height(l, p), y.height(l, p)); break;
      case 2: { int h = number(1000); same("mend" + a + h, x.mend(l, p, h), y.mend(l, p, h)); break; }
      case 3: { int w = number(45); same("sketch" + a + w, x.sketch(s, w), y.sketch(s, w)); break; }
      case 4: same("rise" + a, x.rise(l, p, q), y.rise(l, p, q)); break;
      case 5: same("seen" + a, x.seen(l, p, q), y.seen(l, p, q)); break;
      case 6: { int w = number(20) - 1; same("ray" + a + w, x.ray(l, p, w), y.ray(l, p, w)); break; }
      case 7: { int w = number(8) - 1; same("hump" + a + w, x.hump(l, p, w), y.hump(l, p, w)); break; }
      case 8: { int w = number(m); same("steeper" + a + w, x.steeper(l, p, start, w), y.steeper(l, p, start, w)); break; }
      case 9: same("first" + a, x.first(l, s, p, start, year), y.first(l, s, p, start, year)); break;
      case 10: same("fits" + a, x.fits(l, s, p, year), y.fits(l, s, p, year)); break;
      case 11: same("where" + a, x.where(l, s, year, k - 1), y.where(l, s, year, k - 1)); break;
      case 12: same("hills" + a, x.hills(l, s, n, k - 1), y.hills(l, s, n, k - 1)); break;
      case 13: same("sure" + a, x.sure(l, s, n), y.sure(l, s, n)); break;
      case 14: same("bars" + a, x.bars(l, s, n), y.bars(l, s, n)); break;
      case 15: same("doubt" + a, x.doubt(l, s), y.doubt(l, s)); break;
      case 16: same("since" + a, x.since(l, s, one), y.since(l, s, one)); break;
      case 17: { int w = number(20); same("pairs" + a + w, x.pairs(l, s, s2, w), y.pairs(l, s, s2, w)); break; }
      case 18: { int w = number(one ? 1000 : 20); same("way" + a + w, x.way(l, s, s2, w), y.way(l, s, s2, w)); break; }
      case 19: case 20: same("draw" + a, x.draw(l, p, start, draw, at), y.draw(l, p, start, draw, at)); break;
      case 21: same("rivals" + a, x.rivals(l, p, start, draw), y.rivals(l, p, start, draw)); break;
      case 22: same("known" + a, x.known(l, p), y.known(l, p)); break;
      case 23: same("sees" + a, x.sees(l, p), y.sees(l, p)); break;
      case 24: same("most" + a, x.most(l), y.most(l)); break;
      case 25: same("lacks" + a, x.lacks(l, s, p, q), y.lacks(l, s, p, q)); break;
      case 26: { int h = number(1000); same("shift" + a + h, x.shift(l, p, h), y.shift(l, p, h)); break; }
      case 27: same("stretch" + a, x.stretch(l, s, p, start, one, two), y.stretch(l, s, p, start, one, two)); break;
      case 28: same("wrong" + a, x.wrong(l, s, p, start), y.wrong(l, s, p, start)); break;
      case 29: same("nearest" + a, x.nearest(l, s, one), y.nearest(l, s, one)); break;
      case 30: { int seed = random.nextInt(), e = number(21);
        same("scrawl" + a + seed + ", " + e, x.scrawl(l, p, start, draw, seed, e, at), y.scrawl(l, p, start, draw, seed, e, at)); break; }
      case 31: { int seed = random.nextInt(), e = number(21), w = 1 + number(8);
        same("found" + a + seed + ", " + e + ", " + w, x.found(l, p, start, draw, seed, e, w, one), y.found(l, p, start, draw, seed, e, w, one)); break; }
      case 32: { int o = number(y.count(0)); same("differs" + a + o, x.differs(l, o, p), y.differs(l, o, p)); break; }
      case 33: same("hidden" + a, x.hidden(l), y.hidden(l)); break;
      case 34: { int w = number(5) - 1; same("guards" + a + w, x.guards(l, w), y.guards(l, w)); break; }
      case 35: same("sneak" + a, x.sneak(l, p, q, r), y.sneak(l, p, q, r)); break;
      case 36: same("proud" + a, x.proud(l, p), y.proud(l, p)); break;
      case 37: same("peaks" + a, x.peaks(l), y.peaks(l)); break;
      case 38: { int w = number(3); same("count" + w, x.count(w), y.count(w)); break; }
      case 39: { int w = number(3); same("image" + w, x.image(w), y.image(w)); break; }
      case 40: if (below(3) == 0) { int w = number(3); same("again" + w, x.again(w), y.again(w)); } break;
      default: tellSomething(4);
    }
  }

  public static void main(String[] args) {
    int runs = args.length > 0 ? Integer.parseInt(args[0]) : 1000;
    int seed = args.length > 1 ? Integer.parseInt(args[1]) : 1;
    int most = args.length > 2 ? Integer.parseInt(args[2]) : 5;
    for (int run = 0; run < runs && wrong == 0; run++) {
      random = new Random(1000003L * seed + run);
      LOG.setLength(0);
      x = new HillSketch();
      y = new Plain();
      int size = run % 10 == 0 ? most : 4;
      for (int k = 0; k < 4; k++) read(landText(size), 0, y.count(0) < 2 ? -1 : below(2));
      for (int k = 0; k < 5; k++) tellSomething(size);
      for (int k = 0; k < 120; k++) call();
    }
    System.out.println(wrong == 0 ? "random runs: all answers are as Plain has them" : wrong + " answers differ from Plain");
    if (wrong != 0) System.exit(1);
  }
}
