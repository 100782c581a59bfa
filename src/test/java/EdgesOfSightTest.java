/**
 * Term 2 and promises 10 to 14, 28, 29, 31 and 37 to 42, sentence by sentence: the least and the greatest lands, HEIGHTS, EYE,
 * BEND and HAZE, rays and humps that go around once more, none and all of them.
 */
public final class EdgesOfSightTest {
  private static final int MIN = Integer.MIN_VALUE;
  private static final int MAX = Integer.MAX_VALUE;

  public static void main(String[] args) {
    riseOfBend();
    riseOfHeights();
    seenInHaze();
    seenOfFlatLand();
    seenAlongOneRay();
    raysOfAllSizes();
    raysInHaze();
    tops();
    humpsOfAllPatterns();
    humpsOfFewRays();
    humpNumbers();
    steeperExactly();
    sees();
    most();
    shift();
    differs();
    hidden();
    guards();
    guardsOfMany();
    sneak();
    proud();
    peaks();
    longWays();
    Check.finish("EdgesOfSightTest");
  }

  private static int gcd(int a, int b) { return b == 0 ? Math.abs(a) : gcd(b, a % b); }

  /** BEND * D / 100, cut: for each BEND and each distance. */
  private static void riseOfBend() {
    for (int bend = 0; bend <= 99; bend++) {
      HillSketch x = Check.on("size 12 12;bend " + bend + ";");
      for (int q = 1; q < 144; q++) {
        int d = (q % 12) * (q % 12) + (q / 12) * (q / 12);
        Check.due("10: BEND " + bend + ", D " + d, x.rise(0, 0, q), -(bend * d / 100));
        Check.due("10: BEND " + bend + ", from " + q, x.rise(0, q, 0), -(bend * d / 100));
      }
    }
    HillSketch x = Check.on("size 12 3;bend 99;");
    Check.due("10: D of one column", x.rise(0, 5, 29), -3);
    Check.due("10: D of one row", x.rise(0, 12, 23), -119);
    Check.due("10: D of a row's end to the next one's begin", x.rise(0, 11, 12), -120);
  }

  private static void riseOfHeights() {
    HillSketch x = Check.on("size 12 12;eye 9;bend 99;");
    x.mend(0, 0, 999);
    Check.due("10: the least of all", x.rise(0, 0, 143), -999 - 9 - 239);
    Check.due("10: and back", x.rise(0, 143, 0), 999 - 9 - 239);
    HillSketch y = Check.on("size 2 2;heights 0 999 999 0;");
    Check.due("10: the greatest of all", y.rise(0, 0, 1), 999);
    Check.due("10: down", y.rise(0, 1, 0), -999);
    Check.due("10: as high", y.rise(0, 1, 2), 0);
    Check.due("10: as high", y.rise(0, 0, 3), 0);
    for (int eye = 0; eye <= 9; eye++) Check.due("10: EYE " + eye, Check.on("eye " + eye + ";heights 5 5;").rise(0, 0, 1), -eye);
    HillSketch z = Check.on("heights 3 4;");
    Check.due("10: of the first PLACE", z.rise(0, 0, 1), 1);
    Check.due("10: of the last PLACE", z.rise(0, 15, 0), 3);
    Check.due("10: to the last PLACE", z.rise(0, 1, 15), -4);
    z.mend(0, 15, 9);
    Check.due("10: as it is mended", z.rise(0, 1, 15), 5);
  }

  /** From a flat land with EYE each one farther is less steeply down: just those in HAZE are SEEN. */
  private static void seenInHaze() {
    for (int haze : new int[] {1, 2, 3, 4, 5, 8, 9, 10, 120, 121, 122, 240, 241, 242, 243, 998, 999}) {
      for (int p : new int[] {0, 11, 65, 132, 143}) {
        HillSketch x = Check.on("size 12 12;eye 1;haze " + haze + ";");
        int count = 0;
        for (int q = 0; q < 144; q++) {
          int dx = q % 12 - p % 12;
          int dy = q / 12 - p / 12;
          boolean in = dx * dx + dy * dy <= haze;
          if (q != p) Check.due("11: HAZE " + haze + ", from " + p + " to " + q, x.seen(0, p, q), in ? 1 : 0);
          count += in && q != p ? 1 : 0;
        }
        Check.due("28: HAZE " + haze + ", from " + p, x.sees(0, p), count);
      }
    }
  }

  /** From a flat land without EYE the nearest of each RAY is as steep as all behind it: it alone is SEEN. */
  private static void seenOfFlatLand() {
    for (int height : new int[] {0, 999}) {
      for (int p = 0; p < 144; p++) {
        HillSketch x = Check.on("size 12 12;heights" + (" " + height).repeat(144) + ";");
        int count = 0;
        for (int q = 0; q < 144; q++) {
          boolean nearest = gcd(q % 12 - p % 12, q / 12 - p / 12) == 1;
          if (q != p) Check.due("11: flat, from " + p + " to " + q, x.seen(0, p, q), nearest ? 1 : 0);
          count += nearest ? 1 : 0;
        }
        Check.due("28: flat, from " + p, x.sees(0, p), count);
        Check.due("12: flat, from " + p, x.ray(0, p, -1), count);
        Check.due("13: flat, from " + p, x.hump(0, p, -1), 0);
      }
    }
  }

  private static void seenAlongOneRay() {
    // to the east: 4, then as steep, then one more than that, then one that is lower, then as steep as the steepest, then steeper
    HillSketch x = Check.on("size 12 2;heights 0 4 8 13 5 0 26 31;");
    int[] seen = {-1, 1, 0, 1, 0, 0, 0, 1};
    for (int q = 0; q < 8; q++) Check.due("11: along the row, " + q, x.seen(0, 0, q), seen[q]);
    Check.due("12: the TOP of the row", x.ray(0, 0, 0), 7);
    // a mended one far behind is seen by one more only
    x.mend(0, 11, 48);
    Check.due("11: 48 by 11 is less than 31 by 7", x.seen(0, 0, 11), 0);
    x.mend(0, 11, 49);
    Check.due("11: 49 by 11 is more than 31 by 7", x.seen(0, 0, 11), 1);
    Check.due("12: then it is the TOP", x.ray(0, 0, 0), 11);
    // downwards, and along a column and a diagonal
    HillSketch y = Check.on("size 2 12;heights 100 0 90 0 80 0 71 0 60 0 49;");
    int[] down = {1, 0, 1, 0, 0};
    for (int k = 1; k <= 5; k++) Check.due("11: down the column, " + k, y.seen(0, 0, 2 * k), down[k - 1]);
    HillSketch z = Check.on("size 12 12;");
    for (int k = 1; k < 12; k++) z.mend(0, 13 * k, 7 * k);
    for (int k = 1; k < 12; k++) Check.due("11: up the diagonal, " + k, z.seen(0, 0, 13 * k), k == 1 ? 1 : 0);
    z.mend(0, 143, 78);
    Check.due("11: one more at its end", z.seen(0, 0, 143), 1);
    Check.due("11: it does not hide nearer ones", z.seen(0, 0, 13), 1);
    // what hides is in HAZE, as it is nearer; one that is not in HAZE is not SEEN, however steep
    HillSketch h = Check.on("size 5 2;haze 4;heights 0 1 5 900 0 900;");
    int[] hazy = {1, 1, 0, 0};
    for (int q = 1; q < 5; q++) Check.due("11: in HAZE 4, " + q, h.seen(0, 0, q), hazy[q - 1]);
    Check.due("12: the TOP in HAZE 4", h.ray(0, 0, 0), 2);
    // with EYE the way back is another one
    HillSketch e = Check.on("size 4 2;eye 2;heights 0 3 0 7;");
    Check.due("11: 5 by 3 is more than 1 by 1", e.seen(0, 0, 3), 1);
    Check.due("11: and back, -9 by 3 is -6 by 2", e.seen(0, 3, 0), 0);
  }

  /** Of all sizes, all PLACES: the nearest PLACE of each direction, clockwise from north. */
  private static void raysOfAllSizes() {
    for (int w = 2; w <= 12; w++) {
      for (int h = 2; h <= 12; h++) {
        HillSketch x = Check.on("size " + w + " " + h + ";");
        int calls = 9;
        for (int p = 0; p < w * h; p++) {
          if (calls > 400) {
            x = Check.on("size " + w + " " + h + ";");
            calls = 9;
          }
          calls += raysFrom(x, w, h, p);
        }
      }
    }
  }

  /** How often it called. */
  private static int raysFrom(HillSketch x, int w, int h, int p) {
    int due = 0;
    for (int q = 0; q < w * h; q++) due += gcd(q % w - p % w, q / w - p / w) == 1 ? 1 : 0;
    String name = "12: " + w + " by " + h + ", from " + p;
    int rays = x.ray(0, p, -1);
    Check.due(name, rays, due);
    int lastX = 0;
    int lastY = 0;
    for (int k = 0; k < rays; k++) {
      int q = x.ray(0, p, k);
      int dx = q % w - p % w;
      int dy = q / w - p / w;
      Check.due(name + ", RAY " + k + " is " + q, q >= 0 && gcd(dx, dy) == 1, true);
      if (k > 0) Check.due(name + ", RAY " + k + " is behind the one ahead", isBehind(lastX, lastY, dx, dy), true);
      lastX = dx;
      lastY = dy;
    }
    Check.due(name + ", RAY " + rays, x.ray(0, p, rays), -1);
    return rays + 2;
  }

  /** Whether the second direction is farther clockwise from north than the first one. */
  private static boolean isBehind(int ax, int ay, int bx, int by) {
    int one = half(ax, ay);
    int two = half(bx, by);
    return one != two ? one < two : ax * by - ay * bx > 0;
  }

  /** From north to just ahead of south, and from south on. */
  private static int half(int dx, int dy) { return dx > 0 || dx == 0 && dy < 0 ? 0 : 1; }

  private static void raysInHaze() {
    for (int haze = 1; haze <= 12; haze++) {
      HillSketch x = Check.on("size 7 7;haze " + haze + ";");
      int due = 0;
      for (int q = 0; q < 49; q++) {
        int dx = q % 7 - 3;
        int dy = q / 7 - 3;
        due += gcd(dx, dy) == 1 && dx * dx + dy * dy <= haze ? 1 : 0;
      }
      Check.due("12: RAYS in HAZE " + haze, x.ray(0, 24, -1), due);
      for (int k = 0; k < due; k++) Check.due("12: RAY " + k + " in HAZE " + haze, x.ray(0, 24, k) >= 0, true);
      Check.due("12: RAY " + due + " in HAZE " + haze, x.ray(0, 24, due), -1);
    }
    HillSketch x = Check.on("size 2 2;haze 1;");
    int[][] two = {{1, 2}, {3, 0}, {0, 3}, {1, 2}};
    for (int p = 0; p < 4; p++) {
      Check.due("12: two RAYS of " + p, x.ray(0, p, -1), 2);
      for (int k = 0; k < 2; k++) Check.due("12: RAY " + k + " of " + p, x.ray(0, p, k), two[p][k]);
    }
    HillSketch z = Check.on("size 3 3;haze 1;");
    int[] around = {1, 5, 7, 3};
    Check.due("12: four RAYS", z.ray(0, 4, -1), 4);
    for (int k = 0; k < 4; k++) Check.due("12: RAY " + k + " of four", z.ray(0, 4, k), around[k]);
  }

  private static void tops() {
    HillSketch x = Check.on("size 12 2;heights 0 3 6 9 12 15;");
    Check.due("12: of several the nearest", x.ray(0, 0, 0), 1);
    x.mend(0, 4, 13);
    Check.due("12: the steepest", x.ray(0, 0, 0), 4);
    x.mend(0, 8, 26);
    Check.due("12: of several the nearest, of those in the midst", x.ray(0, 0, 0), 4);
    x.mend(0, 11, 999);
    Check.due("12: the last one", x.ray(0, 0, 0), 11);
    HillSketch y = Check.on("size 12 2;haze 120;heights 0 3 6 9 12 15 0 0 0 0 0 999;");
    Check.due("12: not one out of HAZE", y.ray(0, 0, 0), 1);
    Check.due("12: not one out of HAZE", Check.on("size 12 2;haze 121;heights 0 3 6 9 12 15 0 0 0 0 0 999;").ray(0, 0, 0), 11);
    HillSketch z = Check.on("size 4 2;eye 3;heights 9 9 6 3;");
    // -3 by 1, -6 by 2, -9 by 3
    Check.due("12: of several that go down the nearest", z.ray(0, 0, 0), 1);
    z.mend(0, 3, 4);
    Check.due("12: the one that goes down least", z.ray(0, 0, 0), 3);
  }

  /** The middle of nine: all patterns of three heights around it, one below it, one as it is, one above it. */
  private static void humpsOfAllPatterns() {
    int[] around = {1, 2, 5, 8, 7, 6, 3, 0};
    int[] heights = {0, 5, 9};
    int[] steep = new int[8];
    for (int pattern = 0; pattern < 6561; pattern++) {
      HillSketch x = new HillSketch();
      int[] z = {5, 5, 5, 5, 5, 5, 5, 5, 5};
      for (int k = 0, rest = pattern; k < 8; k++, rest /= 3) {
        z[around[k]] = heights[rest % 3];
        int rise = heights[rest % 3] - 5;
        steep[k] = rise * Math.abs(rise) * (k % 2 == 0 ? 2 : 1);
      }
      StringBuilder text = new StringBuilder("size 3 3;heights");
      for (int h : z) text.append(' ').append(h);
      Check.land(x, text.append(';').toString());
      int humps = 0;
      for (int k = 0; k < 8; k++) {
        if (steep[k] > steep[(k + 7) % 8] && steep[k] >= steep[(k + 1) % 8]) {
          Check.due("13: hump " + humps + " of '" + text + "'", x.hump(0, 4, humps), around[k]);
          humps++;
        }
      }
      Check.due("13: humps of '" + text + "'", x.hump(0, 4, -1), humps);
      Check.due("13: hump " + humps + " of '" + text + "'", x.hump(0, 4, humps), -1);
    }
  }

  /** Of 3 RAYS all patterns, and none of 2: in the corners of four, in HAZE 2 and 1. */
  private static void humpsOfFewRays() {
    int[] around = {1, 3, 2};
    for (int pattern = 0; pattern < 64; pattern++) {
      int[] z = {1, pattern % 4, pattern / 16, pattern / 4 % 4};
      String heights = "heights " + z[0] + " " + z[1] + " " + z[2] + " " + z[3] + ";";
      HillSketch three = Check.on("size 2 2;haze 2;" + heights);
      int humps = 0;
      for (int k = 0; k < 3; k++) {
        int[] s = new int[3];
        for (int i = 0; i < 3; i++) {
          int rise = z[around[(k + i + 2) % 3]] - 1;
          s[i] = rise * Math.abs(rise) * (around[(k + i + 2) % 3] == 3 ? 1 : 2);
        }
        if (s[1] > s[0] && s[1] >= s[2]) Check.due("13: of 3 RAYS, " + heights, three.hump(0, 0, humps++), around[k]);
      }
      Check.due("13: of 3 RAYS, " + heights, three.hump(0, 0, -1), humps);
      HillSketch two = Check.on("size 2 2;haze 1;" + heights);
      for (int p = 0; p < 4; p++) {
        Check.due("13: of 2 RAYS, " + heights, two.hump(0, p, -1), 0);
        Check.due("13: of 2 RAYS, " + heights, two.hump(0, p, 0), -1);
        Check.due("14: of 2 RAYS, " + heights, two.steeper(0, p, 0, 0), -2);
      }
    }
  }

  /** The most HUMPS that there are, 45 of 90 RAYS, numbered as they go around. */
  private static void humpNumbers() {
    HillSketch x = Check.on("size 12 12;");
    Check.due("13: RAYS", x.ray(0, 64, -1), 90);
    int[] tops = new int[90];
    for (int k = 0; k < 90; k++) tops[k] = x.ray(0, 64, k);
    for (int odd = 0; odd < 2; odd++) {
      HillSketch y = Check.on("size 12 12;");
      for (int k = odd; k < 90; k += 2) y.mend(0, tops[k], 500 + k);
      Check.due("13: the most HUMPS", y.hump(0, 64, -1), 45);
      for (int k = 0; k < 45; k++) Check.due("13: HUMP " + k + " of 45", y.hump(0, 64, k), tops[2 * k + odd]);
      for (int k : new int[] {45, 46, 90, MAX, -2, MIN}) Check.due("13: HUMP " + k + " of 45", y.hump(0, 64, k), -1);
      Check.due("14: the last and the first of 45", y.steeper(0, 64, 44, 44), 0);
      Check.due("14: HUMP 45 of 45", y.steeper(0, 64, 44, 45), -2);
      Check.due("14: HUMP 45 of 45", y.steeper(0, 64, 45, 44), -2);
    }
  }

  /** 577 by the root of 2 against 408 by 1: squared they are 332929 and 332928 halves. Then 0, and what goes down. */
  private static void steeperExactly() {
    int[][] pairs = {{408, 577, -1}, {408, 576, 1}, {169, 239, 1}, {70, 99, -1}, {985, 999, 1}, {1, 1, 1}, {1, 2, -1}, {999, 999, 1}};
    for (int[] pair : pairs) {
      HillSketch up = Check.on("size 3 3;");
      up.mend(0, 1, pair[0]);
      up.mend(0, 8, pair[1]);
      Check.due("14: HUMPS", up.hump(0, 4, -1), 2);
      Check.due("14: " + pair[0] + " by 1, " + pair[1] + " by the root of 2", up.steeper(0, 4, 0, 1), pair[2]);
      Check.due("14: the other way around", up.steeper(0, 4, 1, 0), -pair[2]);
      Check.due("14: one alone", up.steeper(0, 4, 0, 0), 0);
      // down from 999 to all: the same two are above the others, which are as far below as can be
      if (pair[0] == 999 || pair[1] == 999) continue;
      HillSketch down = Check.on("size 3 3;");
      down.mend(0, 4, 999);
      down.mend(0, 1, 999 - pair[0]);
      down.mend(0, 8, 999 - pair[1]);
      int north = humpAt(down, 1);
      int corner = humpAt(down, 8);
      if (north >= 0 && corner >= 0) Check.due("14: -" + pair[0] + " by 1, -" + pair[1] + " by the root of 2",
        down.steeper(0, 4, north, corner), -pair[2]);
    }
    HillSketch level = Check.on("size 3 3;heights 0 5 0 5 5 5 0 5;");
    Check.due("14: HUMPS of a level", level.hump(0, 4, -1), 4);
    for (int i = 0; i < 4; i++) for (int k = 0; k < 4; k++) Check.due("14: RISE 0 is as steep as RISE 0", level.steeper(0, 4, i, k), 0);
    HillSketch far = Check.on("size 12 12;");
    far.mend(0, 143, 999);
    far.mend(0, 12, 64);
    Check.due("14: HUMPS", far.hump(0, 0, -1), 2);
    // 999 * 999 = 998001, 64 * 64 * 242 = 991232
    Check.due("14: 999 by the root of 242 and 64 by 1", far.steeper(0, 0, 0, 1), 1);
    far.mend(0, 12, 65);
    Check.due("14: 999 by the root of 242 and 65 by 1", far.steeper(0, 0, 0, 1), -1);
    HillSketch sure = Check.on("size 3 3;heights 0 408 0 0 0 0 0 0 577;");
    for (int v : new int[] {-1, 2, 3, MIN, MAX}) {
      Check.due("14: HUMP " + v, sure.steeper(0, 4, v, 0), -2);
      Check.due("14: HUMP " + v, sure.steeper(0, 4, 0, v), -2);
      Check.due("14: HUMP " + v, sure.steeper(0, 4, v, v), -2);
    }
  }

  private static int humpAt(HillSketch x, int top) {
    for (int k = 0; k < x.hump(0, 4, -1); k++) {
      if (x.hump(0, 4, k) == top) return k;
    }
    return -1;
  }

  private static void sees() {
    HillSketch x = Check.on("size 12 12;");
    x.mend(0, 143, 999);
    Check.due("28: all others", x.sees(0, 143), 143);
    HillSketch y = Check.on("size 2 2;haze 1;");
    for (int p = 0; p < 4; p++) Check.due("28: the fewest, " + p, y.sees(0, p), 2);
    Check.due("28: itself not", Check.on("size 2 2;").sees(0, 0), 3);
  }

  private static void most() {
    for (int p = 0; p < 144; p++) {
      HillSketch x = Check.on("size 12 12;");
      x.mend(0, p, 999);
      Check.due("29: the one on high, " + p, x.most(0), p);
      if (p < 143) {
        x.mend(0, 143, 999);
        // both see all: the least of several
        Check.due("29: of two the least, " + p, x.most(0), p);
      }
    }
    Check.due("29: of all the least", Check.on("size 12 12;eye 9;").most(0), 0);
    Check.due("29: of all the least, in HAZE", Check.on("size 2 2;haze 1;").most(0), 0);
  }

  private static void shift() {
    HillSketch x = Check.on("size 3 3;haze 1;heights 5 5 5 5 5 5 5 5 5;");
    // its four neighbours; for itself all four stay alike
    Check.due("31: higher", x.shift(0, 4, 6), 4);
    Check.due("31: lower", x.shift(0, 4, 4), 4);
    Check.due("31: as it is", x.shift(0, 4, 5), 0);
    Check.due("31: to 0", x.shift(0, 4, 0), 4);
    Check.due("31: to 999", x.shift(0, 4, 999), 4);
    Check.due("31: a corner is a HUMP for two", x.shift(0, 0, 999), 2);
    Check.due("31: the last PLACE, too", x.shift(0, 8, 999), 2);
    for (int h : new int[] {MIN, -1, 1000, MAX}) Check.due("31: to " + h, x.shift(0, 4, h), -1);
    for (int p = 0; p < 9; p++) Check.due("31: it was only asked, " + p, x.height(0, p), 5);
    HillSketch y = Check.on("size 12 12;");
    Check.due("31: for all, itself too", y.shift(0, 143, 999), 143 + (humpsFrom(143, 999) == 0 ? 0 : 1));
    Check.due("31: the first PLACE", y.shift(0, 0, 999), 143 + (humpsFrom(0, 999) == 0 ? 0 : 1));
  }

  private static int humpsFrom(int p, int height) {
    HillSketch x = Check.on("size 12 12;");
    x.mend(0, p, height);
    return x.hump(0, p, -1);
  }

  private static void differs() {
    HillSketch x = Check.on("size 12 12;");
    Check.land(x, "size 12 11;");
    for (int p : new int[] {0, 131}) Check.due("37: a PLACE of both, " + p, x.differs(0, 1, p), 0);
    for (int p : new int[] {132, 143}) {
      Check.due("37: a PLACE of one, " + p, x.differs(0, 1, p), -1);
      Check.due("37: a PLACE of one, " + p, x.differs(1, 0, p), -1);
      Check.due("37: a PLACE of one, but with itself, " + p, x.differs(0, 0, p), 0);
    }
    x.mend(0, 70, 100);
    x.mend(0, 5, 100);
    x.mend(1, 70, 50);
    x.mend(1, 130, 50);
    x.mend(1, 9, 50);
    Check.due("37: HUMPS of one", x.hump(0, 0, -1), 2);
    Check.due("37: HUMPS of the other one", x.hump(1, 0, -1), 3);
    Check.due("37: TOPS of the one", x.differs(0, 1, 0), 1);
    Check.due("37: TOPS of the other one", x.differs(1, 0, 0), 2);
    // a TOP that is not one of a HUMP does not count
    HillSketch y = Check.on("size 3 3;heights 0 9;");
    Check.land(y, "size 3 3;heights 0 9 0 0 0 0 0 9;");
    Check.due("37: all of one are TOPS of HUMPS in the other one", y.differs(0, 1, 4), 0);
    Check.due("37: not of the other one", y.differs(1, 0, 4), 1);
    Check.land(y, "");
    Check.due("37: of one LAND", y.differs(1, 1, 4), 0);
    Check.due("37: without HUMPS", Check.on("").differs(0, 0, 5), 0);
  }

  private static void hidden() {
    for (String land : new String[] {"size 2 2;haze 1;", "size 12 12;", "size 12 12;haze 1;bend 99;", "size 2 12;eye 9;heights 999;"}) {
      Check.due("38: a neighbour sees each, " + land, Check.on(land).hidden(0), 0);
    }
  }

  private static void guards() {
    for (int p = 0; p < 144; p += 13) {
      HillSketch x = Check.on("size 12 12;");
      x.mend(0, p, 999);
      Check.due("39: one on high", x.guards(0, -1), 1);
      Check.due("39: which one", x.guards(0, 0), p);
      for (int k : new int[] {1, 2, 3, -2, MIN, MAX}) Check.due("39: guard " + k + " of one", x.guards(0, k), -1);
    }
    Check.due("39: of all the least", Check.on("size 12 12;eye 1;").guards(0, 0), 0);
    // in HAZE 10 one of them watches three columns on each side, in HAZE 5 two, in HAZE 2 one
    isGuarded(Check.on("size 12 2;eye 1;haze 10;"), 1, 8);
    isGuarded(Check.on("size 12 2;eye 1;haze 5;"), 0, 4, 9);
    isGuarded(Check.on("size 12 2;eye 1;haze 2;"));
    isGuarded(Check.on("size 2 12;eye 1;haze 10;"), 2, 16);
    isGuarded(Check.on("size 2 12;eye 1;haze 5;"), 0, 8, 18);
    isGuarded(Check.on("size 9 2;eye 1;haze 2;"), 1, 4, 7);
    isGuarded(Check.on("size 10 2;eye 1;haze 2;"));
    isGuarded(Check.on("size 6 2;eye 1;haze 2;"), 1, 4);
    isGuarded(Check.on("size 3 2;eye 1;haze 2;"), 1);
    isGuarded(Check.on("size 12 12;haze 1;"));
  }

  /** The guards that are due, none if 3 are not enough. */
  private static void isGuarded(HillSketch x, int... due) {
    String name = "39: " + x.land(0, 0) + " by " + x.land(0, 1) + ", HAZE " + x.land(0, 4);
    Check.due(name, x.guards(0, -1), due.length == 0 ? -1 : due.length);
    for (int k = 0; k < 4; k++) Check.due(name + ", guard " + k, x.guards(0, k), k < due.length ? due[k] : -1);
    for (int k : new int[] {-2, MIN, MAX}) Check.due(name + ", guard " + k, x.guards(0, k), -1);
  }

  /** On the largest land: who is watched is seen, and no row of fewer or lesser ones does. */
  private static void guardsOfMany() {
    for (String land : new String[] {"size 12 12;eye 1;haze 70;", "size 12 12;eye 1;haze 80;", "size 12 12;eye 1;haze 61;", "size 12 11;eye 1;haze 65;"}) {
      HillSketch x = Check.on(land);
      Plain y = new Plain();
      y.now.tape = land;
      y.text(0, -1);
      for (int k = -1; k < 4; k++) Check.due("39: " + land + " guard " + k, x.guards(0, k), y.guards(0, k));
    }
  }

  private static void sneak() {
    HillSketch x = Check.on("size 12 12;haze 1;");
    Check.due("40: from corner to corner", x.sneak(0, 0, 143, 11), 22);
    Check.due("40: around", x.sneak(0, 48, 96, 72), 8);
    Check.due("40: a corner is shut off", x.sneak(0, 0, 143, 13), -1);
    Check.due("40: to itself", x.sneak(0, 143, 143, 0), 0);
    Check.due("40: to itself, which is p", x.sneak(0, 143, 143, 143), -1);
    Check.due("40: to itself, which is SEEN", x.sneak(0, 142, 142, 143), -1);
    Check.due("40: from one that is SEEN", x.sneak(0, 142, 0, 143), -1);
    Check.due("40: to one that is SEEN", x.sneak(0, 0, 142, 143), -1);
    Check.due("40: from p", x.sneak(0, 143, 0, 143), -1);
    Check.due("40: to p", x.sneak(0, 0, 143, 143), -1);
    Check.due("40: one step", x.sneak(0, 0, 1, 143), 1);
    Check.due("40: one step back", x.sneak(0, 1, 0, 143), 1);
    Check.due("40: one step down", x.sneak(0, 0, 12, 143), 1);
    Check.due("40: one step up", x.sneak(0, 12, 0, 143), 1);
    Check.due("40: all are SEEN", Check.on("size 12 12;eye 1;").sneak(0, 5, 6, 143), -1);
    Check.due("40: the end of a row", Check.on("size 2 12;haze 1;").sneak(0, 1, 2, 23), 2);
    Check.due("40: from PLACE 0, which is p", x.sneak(0, 0, 0, 0), -1);
    Check.due("40: from PLACE 0, which is SEEN", x.sneak(0, 0, 0, 1), -1);
    Check.due("40: to PLACE 0, which is SEEN", x.sneak(0, 143, 0, 12), -1);
    Check.due("40: to PLACE 0, which is p", x.sneak(0, 143, 0, 0), -1);
    HillSketch steep = Check.on("size 12 2;haze 1;heights 0 999 0 999 0 999 0 999 0 999;");
    Check.due("40: HEIGHTS do not matter, 0 and 999", steep.sneak(0, 0, 9, 23), 9);
    Check.due("40: HEIGHTS do not matter, 999 and 0", steep.sneak(0, 9, 0, 23), 9);
  }

  private static void proud() {
    Check.due("41: 0, none higher", Check.on("").proud(0, 0), 0);
    HillSketch x = Check.on("size 12 12;");
    x.mend(0, 143, 999);
    Check.due("41: 999, none higher", x.proud(0, 143), 999);
    Check.due("41: a higher one beside", x.proud(0, 142), 0);
    Check.due("41: a higher one far away", x.proud(0, 0), 0);
    x.mend(0, 0, 998);
    Check.due("41: down to 0 and up", x.proud(0, 0), 998);
    x.mend(0, 0, 999);
    Check.due("41: as high is not higher", x.proud(0, 0), 999);
    Check.due("41: as high is not higher", x.proud(0, 143), 999);
    HillSketch y = Check.on("size 3 3;heights 5 4 3 4 0 4 3 4 6;");
    Check.due("41: the better one of two ways", y.proud(0, 0), 2);
    y.mend(0, 2, 4);
    Check.due("41: the better one of two ways", y.proud(0, 0), 1);
    y.mend(0, 1, 7);
    Check.due("41: its own HEIGHT is the greatest h", y.proud(0, 0), 0);
    y.mend(0, 1, 0);
    y.mend(0, 3, 0);
    Check.due("41: not from corner to corner", y.proud(0, 0), 5);
    // over all that lies between, which is of one HEIGHT
    for (int low : new int[] {0, 1, 5, 8}) {
      HillSketch z = Check.on("size 12 12;heights" + (" " + low).repeat(144) + ";");
      z.mend(0, 0, 9);
      Check.due("41: none higher", z.proud(0, 0), 9);
      z.mend(0, 143, 10);
      Check.due("41: over " + low + " to the last PLACE", z.proud(0, 0), 9 - low);
      Check.due("41: the last PLACE", z.proud(0, 143), 10);
      Check.due("41: the one in between", z.proud(0, 70), 0);
    }
  }

  private static void peaks() {
    HillSketch x = Check.on("size 12 12;");
    Check.due("42: none", x.peaks(0), 0);
    for (int p = 0; p < 144; p++) {
      if ((p % 12 + p / 12) % 2 == 0) x.mend(0, p, 1);
    }
    Check.due("42: every second one", x.peaks(0), 72);
    for (int p = 0; p < 144; p++) {
      HillSketch y = Check.on("size 12 12;");
      y.mend(0, p, 1);
      Check.due("42: one, " + p, y.peaks(0), 1);
      int other = p % 12 == 0 ? p + 1 : p - 1;
      y.mend(0, other, 1);
      Check.due("42: a neighbour as high, " + p, y.peaks(0), 0);
      y.mend(0, other, 2);
      Check.due("42: a neighbour that is higher, " + p, y.peaks(0), 1);
    }
    Check.due("42: two corners", Check.on("size 2 2;heights 1 0 0 1;").peaks(0), 2);
  }

  /** A corridor that goes to and fro, from PLACE 0 to PLACE 132, 77 steps long; all else is 0. */
  private static void longWays() {
    HillSketch x = Check.on("size 12 12;");
    for (int p = 0; p < 144; p++) {
      int row = p / 12;
      boolean open = row % 2 == 0 || p % 12 == (row % 4 == 1 ? 11 : 0);
      if (open) x.mend(0, p, 500);
    }
    x.mend(0, 132, 900);
    Check.due("41: all the way along", x.proud(0, 0), 0);
    Check.due("41: the way's end", x.proud(0, 132), 900);
    x.mend(0, 54, 300);
    Check.due("41: over the lowest of it", x.proud(0, 0), 200);
    x.mend(0, 0, 800);
    Check.due("41: over the lowest of it, from on high", x.proud(0, 0), 500);
    x.mend(0, 54, 0);
    Check.due("41: over nothing", x.proud(0, 0), 800);
  }
}
