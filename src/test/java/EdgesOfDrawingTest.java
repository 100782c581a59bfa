/**
 * Terms 4 and 5 and promises 24 to 27, 35 and 36, sentence by sentence: what is drawn and scrawled with 1 to 12 HUMPS from
 * each START, seeds that go around once more, who has rivals, and long ways.
 */
public final class EdgesOfDrawingTest {
  private static final int MIN = Integer.MIN_VALUE;
  private static final int MAX = Integer.MAX_VALUE;
  private static final int MIDDLE = 40;

  /** From 29 it is known with 12 of 14 HUMPS; from 31 it would be with 13 of 14, so it is not; nor from 21 and 52. */
  private static final String TWELVE = "size 9 7;heights 9 9 0 0 9 0 0 0 0 9 0 0 0 9 9 9 0 9 0 0 0 9 0 0 0 0 9 0 0 9 0 9 0 0 9 0 0 0 0 0 0 0 0 9 0 0 0 "
    + "0 9 0 0 0 9 0 0 9 0 9 0 0 0 0 0;";
  /** From 33 it is known with all of its 12. */
  private static final String WHOLE = "size 8 8;heights 0 0 0 0 0 0 0 0 0 0 0 9 0 0 0 0 9 9 0 9 9 9 9 0 0 0 0 9 0 0 0 0 0 9 0 0 0 0 0 9 0 0 0 0 0 9 0 0 0 0 0 "
    + "0 0 9 9 0 0 0 9 0 0 0 0 0;";

  public static void main(String[] args) {
    drawn();
    drawnWhole();
    drawnOfAsSteep();
    drawnAt();
    notDrawn();
    rivals();
    known();
    knownWithTwelve();
    scrawled();
    scrawledBounds();
    scrawledAt();
    notScrawled();
    found();
    foundSeeds();
    foundAlone();
    way();
    straightWay();
    Check.finish("EdgesOfDrawingTest");
  }

  /** What a drawn sketch must be told as. */
  private static void is(String name, HillSketch x, int sketch, boolean half, int give, int... heights) {
    int[] told = {heights.length, give, 0, half ? 1 : 0, 0, 0, 99};
    for (int what = 0; what < 7; what++) Check.due(name + ", sketch(" + sketch + ", " + what + ")", x.sketch(sketch, what), told[what]);
    for (int i = 0; i <= heights.length; i++) {
      Check.due(name + ", HEIGHT " + i, x.sketch(sketch, 10 + i), i < heights.length ? heights[i] : -1);
      Check.due(name + ", marks " + i, x.sketch(sketch, 30 + i), i < heights.length ? 0 : -1);
    }
  }

  /** Of n from a START on a ladder of m: those that have gone around once more are the less steep ones. */
  private static int[] ranks(int m, int start, int n) {
    int[] rank = new int[n];
    for (int i = 0; i < n; i++) {
      rank[i] = 1;
      for (int k = 0; k < n; k++) rank[i] += (start + k) % m < (start + i) % m ? 1 : 0;
    }
    return rank;
  }

  private static void drawn() {
    for (int start = 0; start < 24; start++) {
      HillSketch x = Check.on(EdgesOfFitTest.ladder(24), "hump 77 tower lake;give 8;true;turned;years 4 5;");
      for (int n = 1; n <= 12; n++) {
        Check.due("25: " + n + " from " + start, x.draw(0, MIDDLE, start, n, 0), 0);
        is("25: " + n + " from " + start, x, 0, true, 0, ranks(24, start, n));
        Check.due("25: it FITS there", x.first(0, 0, MIDDLE, start, -1), n);
      }
    }
  }

  private static void drawnWhole() {
    for (int m = 1; m <= 14; m++) {
      HillSketch x = Check.on(EdgesOfFitTest.ladder(m), "hump 77 bare;half;");
      Check.due("13: " + m + " HUMPS", x.hump(0, MIDDLE, -1), m);
      for (int n = Math.max(1, m - 2); n <= m + 1; n++) {
        boolean can = n <= m && n <= 12;
        Check.due("25: " + n + " of " + m, x.draw(0, MIDDLE, m - 1, n, 0), can ? 0 : -1);
        if (can) is("25: " + n + " of " + m, x, 0, n < m, 0, ranks(m, m - 1, n));
        Check.due("26: " + n + " of " + m, x.rivals(0, MIDDLE, m - 1, n) >= 0, can);
      }
    }
  }

  private static void drawnOfAsSteep() {
    HillSketch x = Check.on("size 3 3;heights 0 5 0 5 5 5 0 5;");
    for (int start = 0; start < 4; start++) {
      for (int n = 1; n <= 4; n++) {
        x.draw(0, 4, start, n, x.count(1) == 0 ? -1 : 0);
        is("25: " + n + " as steep from " + start, x, 0, n < 4, 0, java.util.Arrays.copyOf(new int[] {1, 1, 1, 1}, n));
      }
    }
    // two as steep, one less, one more
    HillSketch y = Check.on("size 3 3;haze 1;heights 0 7 0 5 0 7 0 9;");
    Check.due("13: four RAYS, which neighbours hide one another", y.hump(0, 4, -1), 2);
    HillSketch z = Check.on("size 9 9;");
    int[][] up = {{4, 20}, {44, 28}, {76, 20}, {36, 12}};
    for (int[] u : up) z.mend(0, u[0], u[1]);
    Check.due("13: four HUMPS", z.hump(0, MIDDLE, -1), 4);
    z.draw(0, MIDDLE, 0, 4, -1);
    is("25: two as steep", z, 0, false, 0, 2, 4, 2, 1);
    z.draw(0, MIDDLE, 2, 4, -1);
    is("25: two as steep, from START 2", z, 1, false, 0, 2, 1, 2, 4);
    z.draw(0, MIDDLE, 3, 3, -1);
    is("25: three of them, from START 3", z, 2, true, 0, 1, 2, 3);
  }

  /** A further one at NONE, up to four; in the place of each one. */
  private static void drawnAt() {
    HillSketch x = Check.on(EdgesOfFitTest.ladder(5));
    for (int k = 0; k < 4; k++) {
      Check.due("25: in the place of one that is not yet, " + k, x.draw(0, MIDDLE, 0, 5, k), -1);
      Check.due("25: a further one, " + k, x.draw(0, MIDDLE, k, 3, -1), k);
      Check.due("25: how many", x.count(1), k + 1);
      is("25: a further one, " + k, x, k, true, 0, ranks(5, k, 3));
    }
    Check.due("25: there are 4", x.draw(0, MIDDLE, 0, 5, -1), -1);
    for (int k = 3; k >= 0; k--) {
      Check.due("25: in the place of " + k, x.draw(0, MIDDLE, 4, 5, k), k);
      is("25: in the place of " + k, x, k, false, 0, ranks(5, 4, 5));
      if (k > 0) is("25: the one ahead stays", x, k - 1, true, 0, ranks(5, k - 1, 3));
    }
    Check.due("25: still 4", x.count(1), 4);
    for (int at : new int[] {MIN, -2, 4, 5, MAX}) Check.due("25: at " + at, x.draw(0, MIDDLE, 0, 5, at), -1);
    // the second LAND's places are its own
    HillSketch y = Check.on("size 2 2;");
    Check.land(y, EdgesOfFitTest.ladder(2));
    Check.due("25: of the first LAND", y.draw(0, MIDDLE, 0, 1, -1), -1);
    Check.due("25: of the second LAND", y.draw(1, MIDDLE, 0, 2, -1), 0);
    Check.due("25: nothing else has changed", y.fault(0), 0);
  }

  private static void notDrawn() {
    HillSketch x = Check.on("size 3 3;", "hump 7;");
    // without HUMPS there is no START and no n
    for (int n : new int[] {0, 1}) {
      Check.due("25: without HUMPS", x.draw(0, 4, 0, n, 0), -1);
      Check.due("25: without HUMPS", x.draw(0, 4, 0, n, -1), -1);
      Check.due("26: without HUMPS", x.rivals(0, 4, 0, n), -1);
      Check.due("35: without HUMPS", x.scrawl(0, 4, 0, n, 1, 1, 0), -1);
      Check.due("36: without HUMPS", x.found(0, 4, 0, n, 1, 1, 1, false), -1);
    }
    is("25: it is as it was", x, 0, false, 0, 7);
    Check.due("25: none has come", x.count(1), 1);
  }

  /** Of each number of HUMPS and each START, as Plain counts them; that PLACE itself is none. */
  private static void rivals() {
    String[] lands = {TWELVE, WHOLE, "size 4 4;heights 3 1 4 1 5 9 2 6 5 3 5 8 9 7 9 3;", "size 3 3;heights 1 2 3 4 0 9 5 6 7;"};
    int[] places = {29, 33, 5, 4};
    for (int k = 0; k < 4; k++) {
      HillSketch x = Check.on(lands[k]);
      Plain y = plain(lands[k]);
      int m = x.hump(0, places[k], -1);
      for (int n = 1; n <= Math.min(m, 12); n++) {
        for (int start : new int[] {0, m / 2, m - 1}) {
          Check.due("26: " + n + " of " + m + " from " + start + " in land " + k, x.rivals(0, places[k], start, n), y.rivals(0, places[k], start, n));
        }
      }
      Check.due("26: none has been drawn", x.count(1), 0);
    }
    HillSketch x = Check.on("size 12 12;");
    x.mend(0, 143, 9);
    int one = 0;
    for (int p = 0; p < 144; p++) one += x.hump(0, p, -1) == 1 ? 1 : 0;
    Check.due("26: all others that see one HUMP, but itself", x.rivals(0, 0, 0, 1), one - 1);
    HillSketch y = Check.on(EdgesOfFitTest.ladder(24));
    Check.due("26: twelve", y.rivals(0, MIDDLE, 0, 12) >= 0, true);
    Check.due("26: thirteen", y.rivals(0, MIDDLE, 0, 13), -1);
  }

  private static Plain plain(String land) {
    Plain y = new Plain();
    y.now.tape = land;
    y.text(0, -1);
    return y;
  }

  private static void known() {
    for (String land : new String[] {"size 4 4;heights 3 1 4 1 5 9 2 6 5 3 5 8 9 7 9 3;", "size 5 4;haze 5;heights 3 1 4 1 5 9 2 6 5 3 5 8 9 7 9 3 2 3 8 4;",
      "size 3 3;", "size 2 2;heights 1 2 3 4;", "size 2 2;haze 1;heights 1 2 3 4;"}) {
      HillSketch x = Check.on(land);
      Plain y = plain(land);
      for (int p = 0; p < x.land(0, 0) * x.land(0, 1); p++) Check.due("27: " + land + " from " + p, x.known(0, p), y.known(0, p));
      Check.due("27: none has been drawn", x.count(1), 0);
    }
    // one that alone has HUMPS is known with 1
    HillSketch one = Check.on("size 3 2;haze 1;heights 0 0 5;");
    Check.due("27: 1 is enough", one.known(0, 1), 1);
    Check.due("27: without HUMPS", one.known(0, 0), -1);
  }

  private static void knownWithTwelve() {
    HillSketch x = Check.on(TWELVE);
    Check.due("13: fourteen HUMPS", x.hump(0, 29, -1), 14);
    Check.due("27: with 12 of 14", x.known(0, 29), 12);
    Check.due("13: fourteen HUMPS", x.hump(0, 31, -1), 14);
    Check.due("27: 12 at most, of 14", x.known(0, 31), -1);
    Check.due("27: 12 at most, of 14", x.known(0, 52), -1);
    Check.due("27: 12 at most, of 15", x.known(0, 21), -1);
    HillSketch y = Check.on(WHOLE);
    Check.due("13: twelve HUMPS", y.hump(0, 33, -1), 12);
    Check.due("27: with all 12", y.known(0, 33), 12);
    Check.due("26: with all 12", y.rivals(0, 33, 0, 12), 0);
    // thirteen, which somebody else has, too
    HillSketch other = Check.on("size 7 6;heights 9 0 9 9 9 0 0 0 9 9 9 9 9 9 9 9 9 0 9 0 0 0 0 9 0 9 9 9 9 9 9 9 9 9 0 0 0 9 9 9 0 9;");
    Check.due("13: thirteen HUMPS", other.hump(0, 17, -1), 13);
    Check.due("27: 12 at most, of 13", other.known(0, 17), -1);
    Check.due("26: 12 of 13", other.rivals(0, 17, 0, 12) > 0, true);
    // a land that is alike from both ends: nobody is known, however many HUMPS there are
    HillSketch z = Check.on("size 5 2;heights 0 7 0 7 0 0 0 9 0 0;");
    for (int p : new int[] {0, 4, 5, 9}) Check.due("27: alike, from " + p, z.known(0, p), plain("size 5 2;heights 0 7 0 7 0 0 0 9 0 0;").known(0, p));
  }

  /** The HEIGHTS that are due, by numbers of 64 bits, cut to 32. */
  private static int[] scrawl(int[] ranks, int seed, int e) {
    int[] h = new int[ranks.length];
    long x = seed & 0xffffffffL;
    for (int i = 0; i < h.length; i++) {
      x = (x * 1103515245L + 12345L) % 4294967296L;
      long added = x / 65536 % (2 * e + 1) - e;
      h[i] = (int) Math.max(1, Math.min(99, 10 * ranks[i] + added));
    }
    return h;
  }

  private static void scrawled() {
    int[] seeds = {0, 1, -1, MIN, MIN + 1, MAX, MAX - 1, 5, 65535, 65536, 1 << 30, 123456789, -987654321};
    for (int e = 0; e <= 20; e++) {
      HillSketch x = Check.on(EdgesOfFitTest.ladder(24), "hump 7 tower lake;give 8;true;turned;years 4 5;");
      for (int s = 0; s < seeds.length; s++) {
        int n = 1 + (s + e) % 9;
        int start = (s * 5 + e) % 24;
        Check.due("35: " + n + " from " + start, x.scrawl(0, MIDDLE, start, n, seeds[s], e, 0), 0);
        is("35: SEED " + seeds[s] + ", e " + e, x, 0, true, 2 * e, scrawl(ranks(24, start, n), seeds[s], e));
      }
    }
    for (int m = 1; m <= 9; m++) {
      HillSketch x = Check.on(EdgesOfFitTest.ladder(m));
      Check.due("35: all " + m, x.scrawl(0, MIDDLE, 0, m, 3, 4, -1), 0);
      is("35: all " + m + ", WHOLE", x, 0, false, 8, scrawl(ranks(m, 0, m), 3, 4));
    }
  }

  /** 1 at least, 99 at most: both of these come, and so do those next to them. */
  private static void scrawledBounds() {
    boolean[] came = new boolean[101];
    HillSketch x = Check.on(EdgesOfFitTest.ladder(24));
    for (int seed = 0; seed < 60; seed++) {
      x.scrawl(0, MIDDLE, 0, 9, seed, 20, seed == 0 ? -1 : 0);
      int[] due = scrawl(ranks(24, 0, 9), seed, 20);
      for (int i : new int[] {0, 8}) {
        int h = x.sketch(0, 10 + i);
        Check.due("35: HEIGHT " + i + " by SEED " + seed, h, due[i]);
        came[Math.max(0, Math.min(100, h))] = true;
      }
    }
    Check.due("35: 1 at least", came[1], true);
    Check.due("35: none below", came[0], false);
    Check.due("35: 99 at most", came[99], true);
    Check.due("35: none above", came[100], false);
  }

  private static void scrawledAt() {
    HillSketch x = Check.on(EdgesOfFitTest.ladder(5));
    for (int k = 0; k < 4; k++) {
      Check.due("35: in the place of one that is not yet, " + k, x.scrawl(0, MIDDLE, 0, 5, 1, 0, k), -1);
      Check.due("35: a further one, " + k, x.scrawl(0, MIDDLE, k, 3, 1, 0, -1), k);
      int[] tens = ranks(5, k, 3);
      for (int i = 0; i < 3; i++) tens[i] *= 10;
      is("35: without error, " + k, x, k, true, 0, tens);
    }
    Check.due("35: there are 4", x.scrawl(0, MIDDLE, 0, 5, 1, 0, -1), -1);
    for (int k = 3; k >= 0; k--) {
      Check.due("35: in the place of " + k, x.scrawl(0, MIDDLE, 4, 5, 9, 20, k), k);
      is("35: in the place of " + k, x, k, false, 40, scrawl(ranks(5, 4, 5), 9, 20));
    }
    for (int at : new int[] {MIN, -2, 4, 5, MAX}) Check.due("35: at " + at, x.scrawl(0, MIDDLE, 0, 5, 1, 1, at), -1);
  }

  private static void notScrawled() {
    for (int m : new int[] {3, 8, 9, 10, 24}) {
      HillSketch x = Check.on(EdgesOfFitTest.ladder(m), "hump 7;");
      for (int n : new int[] {MIN, -1, 0, 1, 3, 4, 8, 9, 10, 11, 12, MAX}) {
        boolean can = n >= 1 && n <= m && n <= 9;
        Check.due("36: " + n + " of " + m, x.found(0, MIDDLE, 0, n, 1, 1, 1, false) >= 0, can);
        Check.due("36: " + n + " of " + m + ", alone", x.found(0, MIDDLE, 0, n, 1, 1, 1, true) >= 0, can);
        if (!can) Check.due("35: " + n + " of " + m, x.scrawl(0, MIDDLE, 0, n, 1, 1, 0), -1);
      }
      for (int e : new int[] {MIN, -1, 21, 22, MAX}) {
        Check.due("35: e " + e, x.scrawl(0, MIDDLE, 0, 3, 1, e, 0), -1);
        Check.due("36: e " + e, x.found(0, MIDDLE, 0, 3, 1, e, 1, false), -1);
      }
      is("35: it is as it was", x, 0, false, 0, 7);
      for (int n = 1; n <= Math.min(m, 9); n++) Check.due("35: " + n + " of " + m, x.scrawl(0, MIDDLE, 0, n, 1, 20, 0), 0);
    }
  }

  /** As many worlds as there are: what is scrawled by at most e fits, by GIVE, where it was drawn. */
  private static void found() {
    HillSketch x = Check.on(EdgesOfFitTest.ladder(24));
    for (int w = -1; w <= 10; w++) {
      boolean can = w >= 1 && w <= 8;
      for (int e : new int[] {0, 20}) Check.due("36: " + w + " worlds", x.found(0, MIDDLE, 3, 9, MAX, e, w, false), can ? w : -1);
      Check.due("36: " + w + " worlds, alone", x.found(0, MIDDLE, 3, 9, MAX, 0, w, true) >= 0, can);
    }
    for (int w : new int[] {MIN, MAX}) Check.due("36: " + w + " worlds", x.found(0, MIDDLE, 3, 9, 0, 1, w, false), -1);
    for (int sketches = 0; sketches <= 4; sketches++) {
      Check.due("36: with " + sketches + " SKETCHES", x.found(0, MIDDLE, 3, 9, 0, 1, 5, false), 5);
      Check.due("36: none has been drawn", x.count(1), sketches);
      Check.sketch(x, "hump 5;");
    }
  }

  /** Worlds by SEED, SEED + 1, ..: together they are as many as one by one, and the greatest one is followed by the least. */
  private static void foundSeeds() {
    for (int base : new int[] {0, -4, 1000, MAX, MAX - 1, MAX - 4, MAX - 7, MIN, 77}) {
      HillSketch x = Check.on(CLOSE, "hump 1;");
      int sum = 0;
      for (int w = 1; w <= 8; w++) {
        int seed = base + w - 1;
        int alone = x.found(0, WHO, 0, 7, seed, 20, 1, true);
        x.scrawl(0, WHO, 0, 7, seed, 20, 0);
        Check.due("36: alone by SEED " + seed, alone, x.where(0, 0, -1, -1) == 1 && x.where(0, 0, -1, 0) == WHO ? 1 : 0);
        sum += alone;
        Check.due("36: alone, " + w + " worlds from " + base, x.found(0, WHO, 0, 7, base, 20, w, true), sum);
      }
    }
  }

  /** A land where it depends on the hand's errors whether somebody else could have drawn what is drawn from PLACE 8. */
  private static final String CLOSE = "size 5 5;heights 3 5 5 7 7 6 0 7 6 9 7 3 7 3 4 0 5 6 3 6 8 5 2 2 9;";
  private static final int WHO = 8;

  private static void foundAlone() {
    HillSketch x = Check.on(CLOSE);
    Plain y = plain(CLOSE);
    boolean some = false;
    for (int p = 0; p < 25; p += 4) {
      int m = x.hump(0, p, -1);
      for (int n = Math.max(1, m - 2); n <= m && n <= 9; n++) {
        for (int e : new int[] {0, 7, 20}) {
          int due = y.found(0, p, 0, n, 40 + p, e, 8, true);
          Check.due("36: alone, " + n + " from " + p + ", e " + e, x.found(0, p, 0, n, 40 + p, e, 8, true), due);
          some |= due > 0 && due < 8;
        }
      }
    }
    Check.due("36: by some SEEDS alone, by some not", some, true);
    boolean by = false;
    int first = x.found(0, WHO, 0, 7, 0, 20, 1, true);
    for (int seed = 1; seed < 40; seed++) by |= x.found(0, WHO, 0, 7, seed, 20, 1, true) != first;
    Check.due("36: by some SEEDS alone from PLACE 8, by some not", by, true);
  }

  /** Over all of the largest land, from its first PLACE to its last one, and back. */
  private static void straightWay() {
    StringBuilder s = new StringBuilder("size 12 12;heights");
    for (int p = 0; p < 144; p++) s.append(' ').append(p * p % 83);
    HillSketch x = Check.on(s.append(';').toString());
    for (int end : new int[] {0, 143, 11}) {
      int start = -1;
      for (int k = 0; k < x.hump(0, end, -1) && start < 0; k++) start = x.rivals(0, end, k, 12) == 0 ? k : -1;
      Check.due("26: from the corner " + end, start >= 0, true);
      x.draw(0, end, start, 12, -1);
    }
    int[][] due = {{0, 22, 11}, {22, 0, 11}, {11, 11, 0}};
    for (int i = 0; i < 3; i++) {
      for (int k = 0; k < 3; k++) Check.due("24: from corner to corner, " + i + " " + k, x.way(0, i, k, 82), due[i][k]);
    }
    for (int l : new int[] {241, 242}) Check.due("23: as far as can be, by " + l, x.pairs(0, 0, 1, l), l == 242 ? 1 : 0);
  }

  /** Between both ends of a corridor that goes to and fro, by what is drawn from each with twelve HUMPS and fits nowhere else. */
  private static void way() {
    StringBuilder s = new StringBuilder("size 12 12;heights");
    for (int p = 0; p < 144; p++) {
      int row = p / 12;
      boolean open = row % 2 == 0 || p % 12 == (row % 4 == 1 ? 11 : 0);
      s.append(' ').append(open ? 500 + p * p % 11 % 3 : p * p % 83);
    }
    HillSketch x = Check.on(s.append(';').toString());
    int[] ends = {0, 132};
    for (int end : ends) {
      int start = -1;
      for (int k = 0; k < x.hump(0, end, -1) && start < 0; k++) start = x.rivals(0, end, k, 12) == 0 ? k : -1;
      Check.due("26: from the corridor's end " + end, start >= 0, true);
      x.draw(0, end, start, 12, -1);
    }
    Check.due("17: one end", x.where(0, 0, -1, 0), 0);
    Check.due("17: the other end", x.where(0, 1, -1, 0), 132);
    for (int c : new int[] {2, 3, 400}) {
      Check.due("24: all the way along by " + c, x.way(0, 0, 1, c), 77);
      Check.due("24: and back by " + c, x.way(0, 1, 0, c), 77);
    }
    Check.due("24: straight across", x.way(0, 0, 1, 999), 11);
    Check.due("24: two steps are too steep", x.way(0, 0, 1, 1), -1);
    Check.due("24: to itself", x.way(0, 1, 1, 0), 0);
    // one step of it is c high, down to 490 or up to 510
    for (int[] step : new int[][] {{54, 490}, {48, 510}}) {
      int was = x.height(0, step[0]);
      int ahead = step[0] == 48 ? 36 : 53;
      x.mend(0, step[0], step[1]);
      int c = Math.max(Math.abs(step[1] - x.height(0, ahead)), Math.abs(step[1] - x.height(0, step[0] + 1)));
      Check.due("17: one end is as it was", x.where(0, 0, -1, -1) == 1 && x.where(0, 0, -1, 0) == 0, true);
      Check.due("17: the other end is as it was", x.where(0, 1, -1, -1) == 1 && x.where(0, 1, -1, 0) == 132, true);
      Check.due("24: just so steep", x.way(0, 0, 1, c), 77);
      Check.due("24: one too steep", x.way(0, 0, 1, c - 1), -1);
      Check.due("24: just so steep, and back", x.way(0, 1, 0, c), 77);
      Check.due("24: one too steep, and back", x.way(0, 1, 0, c - 1), -1);
      x.mend(0, step[0], was);
    }
    Check.due("23: both ends, 121 apart", x.pairs(0, 0, 1, 121), 1);
    Check.due("23: both ends, 121 apart", x.pairs(0, 0, 1, 120), 0);
  }
}
