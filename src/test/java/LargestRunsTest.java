import java.util.Random;

/** Lands of the greatest size with the least and greatest EYE, BEND and HAZE: answers as Plain has them, of the last PLACES too. */
public final class LargestRunsTest {
  private static final int[] PLACES = {0, 1, 11, 12, 63, 64, 65, 78, 127, 128, 131, 132, 142, 143};
  private static HillSketch x;
  private static Plain y;
  private static Random random;
  private static String land;

  public static void main(String[] args) {
    String[] kinds = {"eye 9;bend 99;", "haze 1;", "haze 2;eye 1;", "bend 50;haze 242;", "haze 241;", "eye 0;bend 0;haze 999;", "eye 3;haze 60;"};
    int[] ranges = {1000, 3, 10, 100, 2, 1000, 40};
    for (int k = 0; k < kinds.length; k++) {
      random = new Random(k);
      make(kinds[k], ranges[k], k < 6 ? 12 : 7, k < 6 ? 12 : 11);
      sight();
      ways();
      make(kinds[k], ranges[k], k < 6 ? 12 : 7, k < 6 ? 12 : 11);
      fitting();
    }
    Check.finish("LargestRunsTest");
  }

  private static void make(String kind, int range, int w, int h) {
    StringBuilder s = new StringBuilder("size " + w + " " + h + ";heights");
    for (int p = 0; p < w * h; p++) s.append(' ').append(Math.min(random.nextInt(range), p % 3 == 0 ? 999 : 99));
    s.append(';').append(kind);
    while (s.length() < 660) {
      int p = random.nextInt(w * h);
      s.append(random.nextBoolean() ? "lake " + p + ";" : "tower " + p + " 3 7;");
      if (s.toString().split("lake|tower").length == 13) break;
    }
    land = s.toString();
    x = new HillSketch();
    y = new Plain();
    tell(0, land, -1);
  }

  private static void tell(int sort, String text, int at) {
    Check.feed(x, text);
    y.now.tape = text;
    int number = y.text(sort, at);
    Check.due("text '" + text + "'", x.text(sort, at), number);
    if (number < 0) throw new IllegalStateException(text);
  }

  private static void same(String call, long got, long want) { Check.due(call + " on '" + land + "'", got, want); }

  private static int any() {
    int places = y.land(0, 0) * y.land(0, 1);
    return Math.min(places - 1, random.nextBoolean() ? PLACES[random.nextInt(PLACES.length)] : random.nextInt(places));
  }

  private static void sight() {
    for (int p : PLACES) {
      if (y.height(0, p) < 0) continue;
      int rays = y.ray(0, p, -1);
      int humps = y.hump(0, p, -1);
      same("rays of " + p, x.ray(0, p, -1), rays);
      same("humps of " + p, x.hump(0, p, -1), humps);
      for (int k : new int[] {0, 1, rays / 2, rays - 1, rays}) same("ray " + k + " of " + p, x.ray(0, p, k), y.ray(0, p, k));
      for (int k : new int[] {0, 1, humps / 2, humps - 1, humps}) same("hump " + k + " of " + p, x.hump(0, p, k), y.hump(0, p, k));
      same("steeper of " + p, x.steeper(0, p, 0, humps - 1), y.steeper(0, p, 0, humps - 1));
      same("steeper of " + p, x.steeper(0, p, humps / 2, 1), y.steeper(0, p, humps / 2, 1));
      same("sees of " + p, x.sees(0, p), y.sees(0, p));
      for (int q : new int[] {143, 128, 64, 0, any(), any()}) {
        same("seen " + p + " " + q, x.seen(0, p, q), y.seen(0, p, q));
        same("rise " + p + " " + q, x.rise(0, p, q), y.rise(0, p, q));
      }
    }
  }

  private static void ways() {
    same("most", x.most(0), y.most(0));
    same("hidden", x.hidden(0), y.hidden(0));
    for (int k = -1; k < 3; k++) same("guard " + k, x.guards(0, k), y.guards(0, k));
    same("peaks", x.peaks(0), y.peaks(0));
    for (int k = 0; k < 8; k++) {
      int p = any();
      int q = any();
      int r = any();
      same("sneak " + p + " " + q + " " + r, x.sneak(0, p, q, r), y.sneak(0, p, q, r));
      same("proud " + p, x.proud(0, p), y.proud(0, p));
    }
    for (int h : new int[] {0, 999, 5}) {
      int c = any();
      same("shift " + c + " " + h, x.shift(0, c, h), y.shift(0, c, h));
    }
    int p = any();
    tell(0, "size 12 12;heights 0 5 0 5;", -1);
    same("differs", x.differs(0, 1, p), y.differs(0, 1, p));
    same("differs", x.differs(1, 0, p), y.differs(1, 0, p));
  }

  private static void fitting() {
    int places = y.land(0, 0) * y.land(0, 1);
    for (int p : new int[] {0, 143, 78, 130}) {
      int from = Math.min(p, places - 1);
      int m = y.hump(0, from, -1);
      int n = Math.min(m, 12);
      if (n == 0) continue;
      for (int start : new int[] {0, m - 1}) {
        int at = y.count(1) < 4 ? -1 : random.nextInt(4);
        same("draw " + from + " " + start, x.draw(0, from, start, n, at), y.draw(0, from, start, n, at));
      }
      same("rivals " + from, x.rivals(0, from, m - 1, n), y.rivals(0, from, m - 1, n));
      int seed = random.nextInt();
      same("scrawl " + from, x.scrawl(0, from, m / 2, Math.min(m, 9), seed, 20, 0), y.scrawl(0, from, m / 2, Math.min(m, 9), seed, 20, 0));
      same("found " + from, x.found(0, from, 0, Math.min(m, 9), seed, 12, 3, true), y.found(0, from, 0, Math.min(m, 9), seed, 12, 3, true));
      asked(0, from, m);
    }
    if (y.count(1) == 0) tell(1, "hump 1;half;", -1);
    String[] texts = {"hump 1;hump 2;half;years 3 7;", "hump 3 lake;hump 1 lake;hump 2 bare;half;turned;years 2 4;", "hump 9;hump 7;hump 5;true;give 80;half;",
      "hump 1;".repeat(12) + "half;", "hump 1 tower;half;years 0 9;", "hump 1;hump 1 lake;hump 2 tower;half;turned;give 1;"};
    for (String text : texts) {
      tell(1, text, 0);
      int p = any();
      asked(0, p, y.hump(0, p, -1));
      same("doubt of '" + text + "'", y.sketch(0, 0) < 4 ? x.doubt(0, 0) : 0, y.sketch(0, 0) < 4 ? y.doubt(0, 0) : 0);
      if (y.sketch(0, 6) < 10) same("since of '" + text + "'", x.since(0, 0, text.length() % 2 == 0), y.since(0, 0, text.length() % 2 == 0));
    }
  }

  /** All that is asked of one sketch and one place. */
  private static void asked(int sketch, int p, int m) {
    int other = y.count(1) - 1;
    int last = y.sketch(sketch, 0) - 1;
    int start = m > 0 ? random.nextInt(m) : 0;
    int year = random.nextInt(12) - 1;
    same("where", x.where(0, sketch, -1, -1), y.where(0, sketch, -1, -1));
    same("where", x.where(0, sketch, year, 0), y.where(0, sketch, year, 0));
    same("hills", x.hills(0, sketch, last, -1), y.hills(0, sketch, last, -1));
    same("hills", x.hills(0, sketch, 0, 1), y.hills(0, sketch, 0, 1));
    same("sure", x.sure(0, sketch, last) ? 1 : 0, y.sure(0, sketch, last) ? 1 : 0);
    same("bars", x.bars(0, sketch, last), y.bars(0, sketch, last));
    same("first", x.first(0, sketch, p, start, year), y.first(0, sketch, p, start, year));
    same("fits", x.fits(0, sketch, p, year), y.fits(0, sketch, p, year));
    for (int l : new int[] {10, 242}) same("pairs " + l, x.pairs(0, sketch, other, l), y.pairs(0, sketch, other, l));
    for (int c : new int[] {20, 999}) same("way " + c, x.way(0, sketch, other, c), y.way(0, sketch, other, c));
    for (int k = 0; k < 4; k++) same("stretch", x.stretch(0, sketch, p, start, k < 2, k % 2 == 0), y.stretch(0, sketch, p, start, k < 2, k % 2 == 0));
    same("wrong", x.wrong(0, sketch, p, start), y.wrong(0, sketch, p, start));
    same("nearest", x.nearest(0, sketch, true), y.nearest(0, sketch, true));
    same("nearest", x.nearest(0, sketch, false), y.nearest(0, sketch, false));
    int c = any();
    if (last < 3) same("lacks " + p + " " + c, x.lacks(0, sketch, p, c), y.lacks(0, sketch, p, c));
  }
}
