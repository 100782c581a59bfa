/**
 * Terms 3 to 5 and promises 15 to 22, 24, 30 and 32 to 34, sentence by sentence: sketches of 1 to 12 HUMPS held against places
 * of 1 to 24, each START, each HUMP, each GIVE and each YEAR. What is drawn is in EdgesOfDrawingTest.
 */
public final class EdgesOfFitTest {
  private static final int MIN = Integer.MIN_VALUE;
  private static final int MAX = Integer.MAX_VALUE;

  /** The PLACE in the middle of nine by nine, and the nearest PLACES of its 48 RAYS. */
  private static final int MIDDLE = 40;
  private static final int[] RAY = rays();

  public static void main(String[] args) {
    starts();
    turnedStarts();
    numbersOfHumps();
    couples();
    give();
    level();
    trueRises();
    trueGive();
    trueLargest();
    towers();
    towersByYears();
    yearsOfSketches();
    since();
    lakes();
    lakesOfTwo();
    lakesUnseen();
    twelfthThing();
    lastPlaces();
    hills();
    bars();
    doubt();
    doubtNumbers();
    lacks();
    lacksLakes();
    lastRay();
    stretch();
    stretchNumbers();
    wrong();
    nearest();
    pairs();
    way();
    Check.finish("EdgesOfFitTest");
  }

  private static int[] rays() {
    HillSketch x = Check.on("size 9 9;");
    int[] ray = new int[x.ray(0, MIDDLE, -1)];
    for (int k = 0; k < ray.length; k++) ray[k] = x.ray(0, MIDDLE, k);
    return ray;
  }

  private static int distance(int q) {
    int x = q % 9 - 4;
    int y = q / 9 - 4;
    return x * x + y * y;
  }

  /** A land with m HUMPS seen from the middle, on every second RAY, each steeper than those ahead of it. */
  static String ladder(int m) {
    int[] z = new int[81];
    for (int j = 0; j < m; j++) z[RAY[2 * j]] = (int) ((30 + j) * Math.sqrt(distance(RAY[2 * j]))) + 1;
    StringBuilder s = new StringBuilder("size 9 9;heights");
    for (int h : z) s.append(' ').append(h);
    return s.append(';').toString();
  }

  /** HUMPS of these HEIGHTS. */
  static String humps(int... heights) {
    StringBuilder s = new StringBuilder();
    for (int h : heights) s.append("hump ").append(h).append(';');
    return s.toString();
  }

  private static int[] rising(int n) {
    int[] v = new int[n];
    for (int i = 0; i < n; i++) v[i] = i + 1;
    return v;
  }

  private static int[] falling(int n) {
    int[] v = new int[n];
    for (int i = 0; i < n; i++) v[i] = n - i;
    return v;
  }

  private static int[] alike(int n) {
    int[] v = new int[n];
    java.util.Arrays.fill(v, 50);
    return v;
  }

  /** FIRST in the middle from each START on. */
  private static void firstIs(String name, HillSketch x, int sketch, int start, int due) {
    Check.due("15: FIRST of " + name + " from START " + start, x.first(0, sketch, MIDDLE, start, -1), due);
    Check.due("15: FIRST of " + name + " from START " + start + ", in a YEAR", x.first(0, sketch, MIDDLE, start, 0), due);
  }

  /** START + i, remainder by m: twelve that rise fit until they go around once more. */
  private static void starts() {
    HillSketch x = Check.on(ladder(24), humps(rising(12)) + "half;", humps(falling(12)) + "half;", humps(alike(12)) + "half;");
    Check.due("13: HUMPS of the ladder", x.hump(0, MIDDLE, -1), 24);
    for (int j = 0; j < 24; j++) Check.due("13: HUMP " + j + " of the ladder", x.hump(0, MIDDLE, j), RAY[2 * j]);
    for (int start = 0; start < 24; start++) {
      firstIs("twelve that rise", x, 0, start, start <= 12 ? 12 : 24 - start);
      // all that fall are wrong at once, but ahead of the first and behind the last
      firstIs("twelve that fall", x, 1, start, start == 23 ? 2 : 1);
      firstIs("twelve alike", x, 2, start, 12);
      int ahead = Math.min(12, 24 - start);
      Check.due("33: WRONG of those that rise from " + start, x.wrong(0, 0, MIDDLE, start), ahead * (12 - ahead));
      Check.due("33: WRONG of those that fall from " + start, x.wrong(0, 1, MIDDLE, start), 66 - ahead * (12 - ahead));
      Check.due("33: WRONG of those alike from " + start, x.wrong(0, 2, MIDDLE, start), 0);
    }
    for (int start : new int[] {-1, 24, 25, MIN, MAX}) {
      Check.due("15: no START " + start, x.first(0, 0, MIDDLE, start, -1), -1);
      Check.due("33: no START " + start, x.wrong(0, 0, MIDDLE, start), -1);
      Check.due("32: no START " + start, x.stretch(0, 0, MIDDLE, start, true, true), -1);
    }
    Check.due("16: the least START", x.fits(0, 0, MIDDLE, -1), 0);
    HillSketch y = Check.on(ladder(3), humps(2, 3, 1), humps(3, 1, 2), humps(3, 2, 1));
    Check.due("16: the least START is 1", y.fits(0, 0, MIDDLE, -1), 1);
    Check.due("16: the least START is 2", y.fits(0, 1, MIDDLE, -1), 2);
    Check.due("16: none", y.fits(0, 2, MIDDLE, -1), -1);
  }

  /** START - i, remainder by m. */
  private static void turnedStarts() {
    HillSketch x = Check.on(ladder(24), humps(falling(12)) + "half;turned;", humps(rising(12)) + "half;turned;");
    for (int start = 0; start < 24; start++) {
      firstIs("twelve that fall, TURNED", x, 0, start, start >= 11 ? 12 : start + 1);
      firstIs("twelve that rise, TURNED", x, 1, start, start == 0 ? 2 : 1);
    }
    HillSketch y = Check.on(ladder(3), humps(3, 2, 1) + "turned;", humps(1, 3, 2) + "turned;", humps(2, 1, 3) + "turned;");
    Check.due("16: TURNED, from 2", y.fits(0, 0, MIDDLE, -1), 2);
    Check.due("16: TURNED, from 0", y.fits(0, 1, MIDDLE, -1), 0);
    Check.due("16: TURNED, from 1", y.fits(0, 2, MIDDLE, -1), 1);
    // HUMP i is that of the PLACE: a TOWER tells which
    for (int i = 0; i < 3; i++) {
      for (int j = 0; j < 3; j++) {
        StringBuilder s = new StringBuilder("turned;");
        for (int k = 0; k < 3; k++) s.append("hump 5").append(k == i ? " tower;" : ";");
        HillSketch z = Check.on(ladder(3) + "tower " + RAY[2 * j] + " 0 99;", s.toString());
        for (int start = 0; start < 3; start++) firstIs("a TOWER at " + i + ", TURNED", z, 0, start, Math.floorMod(start - i, 3) == j ? 3 : i);
      }
    }
  }

  /** n is m, or less than m and it is HALF: all of 1 to 12 against 0 to 13 and 24. */
  private static void numbersOfHumps() {
    for (int m : new int[] {0, 1, 2, 3, 4, 11, 12, 13, 24}) {
      for (int n = 1; n <= 12; n++) {
        for (int half = 0; half < 2; half++) {
          HillSketch x = Check.on(ladder(m), humps(alike(n)) + (half == 1 ? "half;" : ""));
          boolean can = n == m || n < m && half == 1;
          String name = n + " of " + m + (half == 1 ? ", HALF" : ", WHOLE");
          Check.due("13: " + m + " HUMPS", x.hump(0, MIDDLE, -1), m);
          for (int start : new int[] {0, m - 1, m}) {
            boolean is = start >= 0 && start < m;
            Check.due("15: " + name + " from " + start, x.first(0, 0, MIDDLE, start, -1), !is ? -1 : can ? n : 0);
            Check.due("15: " + name + " from " + start, x.first(0, 0, MIDDLE, start, 50), !is ? -1 : can ? n : 0);
            Check.due("33: " + name + " from " + start, x.wrong(0, 0, MIDDLE, start), is && can ? 0 : -1);
            Check.due("32: " + name + " from " + start, x.stretch(0, 0, MIDDLE, start, true, true) > 0, is && can);
          }
          Check.due("16: " + name, x.fits(0, 0, MIDDLE, -1), can ? 0 : -1);
        }
      }
    }
    HillSketch x = Check.on(ladder(24), humps(alike(12)));
    Check.due("34: twelve, WHOLE, are nowhere", x.nearest(0, 0, false), isWhere(x) ? x.nearest(0, 0, false) : -1);
    HillSketch y = Check.on("size 2 2;heights 0 1 2 3;", humps(alike(12)) + "half;");
    Check.due("34: n can be nowhere", y.nearest(0, 0, false), -1);
    Check.due("34: n can be nowhere", y.nearest(0, 0, true), -1);
    Check.due("17: nowhere", y.where(0, 0, -1, -1), 0);
    Check.due("17: nowhere", y.where(0, 0, -1, 0), -1);
    Check.due("20: nowhere, all are barred by the first one", y.bars(0, 0, 0), 4);
    Check.due("20: nowhere, none by the last one", y.bars(0, 0, 11), 0);
  }

  /** Whether some place of the land has just as many HUMPS as the first sketch. */
  private static boolean isWhere(HillSketch x) {
    for (int p = 0; p < 81; p++) if (x.hump(0, p, -1) == 12) return true;
    return false;
  }

  /** Each k below each i: one couple alone is more than GIVE apart. */
  private static void couples() {
    for (int i = 1; i < 12; i++) {
      for (int k = 0; k < i; k++) {
        int[] good = alike(12);
        good[i] = 55;
        good[k] = 45;
        int[] bad = alike(12);
        bad[i] = 45;
        bad[k] = 55;
        HillSketch x = Check.on(ladder(24), humps(good) + "half;give 9;", humps(bad) + "half;give 9;", humps(bad) + "half;give 10;");
        String name = "HUMPS " + k + " and " + i;
        firstIs(name, x, 0, 0, 12);
        firstIs(name + " the other way", x, 1, 0, i);
        firstIs(name + " the other way, no more than GIVE apart", x, 2, 0, 12);
        Check.due("33: WRONG of " + name, x.wrong(0, 0, MIDDLE, 0), 0);
        Check.due("33: WRONG of " + name + " the other way", x.wrong(0, 1, MIDDLE, 0), 1);
        Check.due("33: WRONG of " + name + " by GIVE", x.wrong(0, 2, MIDDLE, 0), 0);
      }
    }
  }

  /** More than GIVE apart: twelve that rise, from each START, by each GIVE. */
  private static void give() {
    for (int give : new int[] {0, 1, 2, 3, 4, 5, 6, 7, 8, 9, 10, 11, 12, 98, 99}) {
      HillSketch x = Check.on(ladder(24), humps(rising(12)) + "half;give " + give + ";");
      for (int start = 13; start < 24; start++) {
        int due = Math.min(12, Math.max(24 - start, give + 1));
        firstIs("GIVE " + give, x, 0, start, due);
      }
    }
    for (int low = 1; low <= 99; low++) {
      HillSketch x = Check.on(ladder(2), humps(low, 1) + "give " + (low - 1) + ";", low > 1 ? humps(low, 1) + "give " + (low - 2) + ";" : humps(1, 1));
      firstIs("HEIGHTS 1 and " + low + ", just so much apart", x, 0, 0, 2);
      firstIs("HEIGHTS 1 and " + low + ", one more apart", x, 1, 0, low > 1 ? 1 : 2);
    }
  }

  /** As steep is not steeper: neither one may be higher by more than GIVE. */
  private static void level() {
    HillSketch x = Check.on("size 3 3;heights 0 5 0 5 5 5 0 5;", humps(5, 5, 5, 5), humps(5, 6, 5, 5), humps(5, 5, 5, 4), humps(9, 5, 5, 7) + "give 4;");
    int[] first = {4, 1, 3, 4};
    for (int s = 0; s < 4; s++) Check.due("15: of four as steep, sketch " + s, x.first(0, s, 4, 0, -1), first[s]);
    Check.due("33: of four as steep", x.wrong(0, 1, 4, 0), 3);
  }

  /** TRUE: both RISES are above 0, be it by 1. */
  private static void trueRises() {
    for (int north = 0; north < 4; north++) {
      for (int south = 0; south < 4; south++) {
        HillSketch x = Check.on("size 3 3;eye 2;heights 0 " + (north + 1) + " 0 0 0 0 0 " + (south + 1) + ";", humps(5, 5) + "true;give 99;half;", humps(7) + "true;half;");
        Check.due("13: two HUMPS", x.hump(0, 4, -1), 2);
        int one = north - 1;
        int two = south - 1;
        boolean good = one > 0 && two > 0;
        String name = "RISES " + one + " and " + two;
        // from START 0 k is the north, from START 1 it is the south
        boolean close0 = good && 100 * Math.abs(two * two - one * one) <= 99 * two * two;
        boolean close1 = good && 100 * Math.abs(two * two - one * one) <= 99 * one * one;
        Check.due("15: TRUE, " + name, x.first(0, 0, 4, 0, -1), close0 ? 2 : 1);
        Check.due("15: TRUE, from the other one, " + name, x.first(0, 0, 4, 1, -1), close1 ? 2 : 1);
        Check.due("33: TRUE, " + name, x.wrong(0, 0, 4, 0), close0 ? 0 : 1);
        Check.due("15: TRUE, one alone, " + name, x.first(0, 1, 4, 0, -1), 1);
        Check.due("33: TRUE, one alone, " + name, x.wrong(0, 1, 4, 0), 0);
      }
    }
  }

  /** A is at most GIVE of 100 of B away from B: all HEIGHTS to 25 by all GIVES, for three couples of tops. */
  private static void trueGive() {
    int[][] tops = {{1, 10, 1, 7, 10, 1}, {1, 20, 1, 7, 10, 1}, {1, 10, 1, 8, 20, 2}, {2, 9, 2, 7, 7, 1}};
    for (int[] t : tops) {
      for (int low : new int[] {1, 10, 20}) {
        for (int high = 1; high <= 25; high++) {
          trueGiveOf(t, low, high);
        }
      }
    }
  }

  private static void trueGiveOf(int[] t, int low, int high) {
    int[] z = new int[9];
    z[t[0]] = t[1];
    z[t[3]] = t[4];
    StringBuilder land = new StringBuilder("size 3 3;heights");
    for (int h : z) land.append(' ').append(h);
    // exactly, both times both D
    long a = (long) high * high * t[1] * t[1] * t[5];
    long b = (long) low * low * t[4] * t[4] * t[2];
    // the least GIVE that is enough
    long least = (100 * Math.abs(a - b) + b - 1) / b;
    HillSketch x = Check.on(land + ";");
    for (int give : new int[] {0, 1, 50, 98, 99, (int) Math.min(99, least), (int) Math.max(0, Math.min(99, least - 1))}) {
      Check.feed(x, humps(low, high) + "true;give " + give + ";");
      x.text(1, x.count(1) == 0 ? -1 : 0);
      Check.due("15: TRUE, HEIGHTS " + low + " and " + high + ", GIVE " + give + ", " + land, x.first(0, 0, 4, 0, 0), give >= least ? 2 : 1);
    }
  }

  /** The largest numbers: 99 and 6 for 999 by 1 and 999 by the root of 242. */
  private static void trueLargest() {
    HillSketch x = Check.on("size 12 12;");
    x.mend(0, 1, 999);
    x.mend(0, 143, 999);
    Check.due("13: two HUMPS", x.hump(0, 0, -1), 2);
    // 36 * 242 = 8712 is 1089 away from 9801, which is 11.1 of 100
    Check.sketch(x, humps(99, 6) + "true;give 12;");
    Check.sketch(x, humps(99, 6) + "true;give 11;");
    // from the other one on, 9801 is 1089 away from 8712, which is 12.5 of 100
    Check.sketch(x, humps(6, 99) + "true;give 13;");
    Check.sketch(x, humps(6, 99) + "true;give 12;");
    Check.due("15: TRUE, just close enough", x.first(0, 0, 0, 0, 0), 2);
    Check.due("15: TRUE, just too far", x.first(0, 1, 0, 0, 0), 1);
    Check.due("15: TRUE, from the other one, just close enough", x.first(0, 2, 0, 1, 0), 2);
    Check.due("15: TRUE, from the other one, just too far", x.first(0, 3, 0, 1, 0), 1);
    Check.feed(x, humps(99, 99) + "true;give 99;");
    x.text(1, 0);
    Check.due("15: TRUE, 242 times as much", x.first(0, 0, 0, 0, 0), 1);
    Check.due("15: TRUE, a 242nd", x.first(0, 0, 0, 1, 0), 1);
  }

  /** With a TOWER, BARE: of each of twelve HUMPS. */
  private static void towers() {
    for (int i = 0; i < 12; i++) {
      StringBuilder tower = new StringBuilder("half;");
      StringBuilder bare = new StringBuilder("half;");
      for (int k = 0; k < 12; k++) {
        tower.append("hump 5").append(k == i ? " tower;" : ";");
        bare.append("hump 5").append(k == i ? " bare;" : ";");
      }
      HillSketch none = Check.on(ladder(24), tower.toString(), bare.toString());
      firstIs("a TOWER at " + i + ", without", none, 0, 0, i);
      firstIs("BARE at " + i + ", without", none, 1, 0, 12);
      HillSketch one = Check.on(ladder(24) + "tower " + RAY[2 * i] + " 0 99;", tower.toString(), bare.toString());
      firstIs("a TOWER at " + i, one, 0, 0, 12);
      firstIs("BARE at " + i, one, 1, 0, i);
      firstIs("a TOWER at " + i, one, 0, 1, i);
      firstIs("BARE at " + i, one, 1, 1, 12);
      Check.due("33: TOWERS are not asked for, " + i, one.wrong(0, 1, MIDDLE, 0), 0);
      if (i > 0) towersWithLakes(i);
      // a tower beside the TOP, nearer or farther on its RAY, or a LAKE at it, is none at it
      HillSketch beside = Check.on(ladder(24) + "tower " + RAY[2 * i + 1] + " 0 99;lake " + RAY[2 * i] + ";tower 40 0 99;", tower.toString(), bare.toString());
      firstIs("a TOWER beside " + i, beside, 0, 0, i);
      firstIs("BARE beside " + i, beside, 1, 0, 12);
    }
    // on the RAY of the TOP, behind it
    HillSketch behind = Check.on("size 3 9;heights" + " 0".repeat(7) + " 9;tower 4 0 99;tower 1 0 99;", "hump 1 tower;half;", "hump 1 bare;half;");
    Check.due("13: the HUMP to the north", behind.hump(0, 13, 0), 7);
    Check.due("15: a TOWER behind the TOP", behind.first(0, 0, 13, 0, 5), 0);
    Check.due("15: BARE, a TOWER behind the TOP", behind.first(0, 1, 13, 0, 5), 1);
  }

  /** A HUMP with a LAKE ahead asks for no TOWER, nor for none, unless it is told so. */
  private static void towersWithLakes(int i) {
    String[] marks = {" lake", " lake bare", " lake tower"};
    String[] texts = new String[3];
    for (int m = 0; m < 3; m++) {
      StringBuilder s = new StringBuilder("half;");
      for (int k = 0; k < 12; k++) s.append("hump 5").append(k == i ? marks[m] : "").append(';');
      texts[m] = s.toString();
    }
    String lake = "lake " + RAY[2 * i - 1] + ";";
    HillSketch none = Check.on(ladder(24) + lake, texts);
    HillSketch one = Check.on(ladder(24) + lake + "tower " + RAY[2 * i] + " 0 99;", texts);
    // where another HUMP asks for none, a LAKE still asks for no more than a LAKE
    HillSketch other = Check.on(ladder(24) + lake + "tower " + RAY[2 * i] + " 0 99;", texts[0].replaceFirst("hump 5;", "hump 5 bare;"));
    firstIs("a LAKE at " + i + ", BARE at 0, with a TOWER", other, 0, 0, 12);
    HillSketch few = Check.on(ladder(24) + lake + "tower " + RAY[2 * i] + " 0 99;", "hump 5;hump 5 lake;half;");
    Check.due("21: a LAKE and a TOWER that is not asked for", few.doubt(0, 0), 0);
    int[] without = {12, 12, i};
    int[] with = {12, i, 12};
    for (int m = 0; m < 3; m++) {
      firstIs(marks[m] + " at " + i + ", without a TOWER", none, m, 0, without[m]);
      firstIs(marks[m] + " at " + i + ", with a TOWER", one, m, 0, with[m]);
    }
  }

  /** Some TOWER of that YEAR: from, to and the years beside them, for each YEAR. */
  private static void towersByYears() {
    int[][] spans = {{0, 0}, {0, 1}, {0, 99}, {1, 1}, {1, 98}, {50, 50}, {98, 99}, {99, 99}};
    for (int[] span : spans) {
      for (int own = 0; own < 2; own++) {
        // a YEAR that is asked for is that YEAR, whatever the SKETCH's own ones are
        String years = own == 1 ? "years 40 41;" : "";
        HillSketch x = Check.on("size 3 3;heights 0 9;tower 1 " + span[0] + " " + span[1] + ";", "hump 1 tower;" + years, "hump 1 bare;" + years);
        for (int year = 0; year <= 99; year++) {
          boolean stands = span[0] <= year && year <= span[1];
          Check.due("15: TOWER " + span[0] + " " + span[1] + " in " + year, x.first(0, 0, 4, 0, year), stands ? 1 : 0);
          Check.due("15: BARE " + span[0] + " " + span[1] + " in " + year, x.first(0, 1, 4, 0, year), stands ? 0 : 1);
        }
      }
    }
    // two at one TOP, with a year between them
    HillSketch y = Check.on("size 3 3;heights 0 9;tower 1 10 20;tower 1 22 30;", "hump 1 tower;", "hump 1 bare;");
    for (int year = 8; year < 33; year++) {
      boolean stands = year >= 10 && year <= 30 && year != 21;
      Check.due("16: of two TOWERS in " + year, y.fits(0, 0, 4, year), stands ? 0 : -1);
      Check.due("16: BARE of two TOWERS in " + year, y.fits(0, 1, 4, year), stands ? -1 : 0);
      Check.due("17: of two TOWERS in " + year, y.where(0, 0, year, -1) > 0, stands);
    }
  }

  /** YEAR -1: some YEAR of the SKETCH, from its first to its last. */
  private static void yearsOfSketches() {
    int[] edges = {0, 1, 49, 50, 51, 98, 99};
    for (int from : edges) {
      for (int to : edges) {
        if (to < from) continue;
        for (int first : edges) {
          for (int last : edges) {
            if (last >= first) yearsOf(from, to, first, last);
          }
        }
      }
    }
    // one YEAR must do for all of it; FIRST is that with the greatest one
    HillSketch x = Check.on(ladder(3) + "tower " + RAY[0] + " 0 9;tower " + RAY[2] + " 9 19;tower " + RAY[4] + " 10 29;",
      "hump 1 tower;hump 2 tower;hump 3;", "hump 1 tower;hump 2;hump 3 tower;", "hump 1;hump 2 tower;hump 3 bare;years 10 99;", "hump 1;hump 2 tower;hump 3 tower;");
    int[] due = {3, 2, 2, 3};
    int[] fits = {0, -1, -1, 0};
    for (int s = 0; s < 4; s++) {
      Check.due("15: the greatest FIRST of all YEARS, " + s, x.first(0, s, MIDDLE, 0, -1), due[s]);
      Check.due("16: one YEAR for all, " + s, x.fits(0, s, MIDDLE, -1), fits[s]);
    }
  }

  private static void yearsOf(int from, int to, int first, int last) {
    HillSketch x = Check.on("size 3 3;heights 0 9;tower 1 " + first + " " + last + ";", "hump 1 tower;years " + from + " " + to + ";",
      "hump 1 bare;years " + from + " " + to + ";");
    String name = "TOWER in " + first + " " + last + ", YEARS " + from + " " + to;
    int since = Math.max(from, first);
    int until = Math.min(to, last);
    boolean some = since <= until;
    Check.due("15: " + name, x.first(0, 0, 4, 0, -1), some ? 1 : 0);
    Check.due("16: " + name, x.fits(0, 0, 4, -1), some ? 0 : -1);
    Check.due("17: " + name, x.where(0, 0, -1, -1) > 0, some);
    Check.due("18: " + name, x.hills(0, 0, 0, 0), some ? 1 : -1);
    Check.due("19: " + name, x.sure(0, 0, 0), some);
    Check.due("20: " + name, x.bars(0, 0, 0), 9 - x.where(0, 0, -1, -1));
    Check.due("17: " + name + ", in its first YEAR", x.where(0, 0, since, -1), some ? x.where(0, 0, -1, -1) : x.where(0, 0, since, -1));
    Check.due("21: " + name, x.doubt(0, 0), some ? 0 : 1);
    Check.due("22: " + name + ", since", x.since(0, 0, false), some ? since : -1);
    Check.due("22: " + name + ", until", x.since(0, 0, true), some ? until : -1);
    Check.due("23: " + name, x.pairs(0, 0, 0, 0) > 0, some);
    Check.due("24: " + name, x.way(0, 0, 0, 0), some ? 0 : -1);
    Check.due("30: " + name, x.lacks(0, 0, 4, 1), some ? 1 : -1);
    boolean bare = from < first || to > last;
    Check.due("15: BARE, " + name, x.first(0, 1, 4, 0, -1), bare ? 1 : 0);
    Check.due("22: BARE, " + name + ", since", x.since(0, 1, false), !bare ? -1 : from < first || from > last ? from : last + 1);
    Check.due("22: BARE, " + name + ", until", x.since(0, 1, true), !bare ? -1 : to > last || to < first ? to : first - 1);
  }

  /** SINCE, UNTIL: first and last of its YEARS, be there none between them in which it FITS. */
  private static void since() {
    HillSketch x = Check.on("size 3 3;heights 0 9;", "hump 1;years 7 8;", "hump 1;years 99 99;", "hump 1;hump 2;hump 3;", "hump 1;years 0 0;");
    int[][] due = {{7, 8}, {99, 99}, {-1, -1}, {0, 0}};
    for (int s = 0; s < 4; s++) {
      Check.due("22: without TOWERS, since, " + s, x.since(0, s, false), due[s][0]);
      Check.due("22: without TOWERS, until, " + s, x.since(0, s, true), due[s][1]);
    }
    // twelve TOWERS, each two years long, three apart, so that there are as many spans as can be
    String land = "size 3 3;heights 0 9;";
    for (int k = 0; k < 12; k++) land += "tower 1 " + (8 * k + 3) + " " + (8 * k + 4) + ";";
    HillSketch y = Check.on(land);
    for (int from = 0; from <= 99; from += 3) {
      for (int marks = 0; marks < 2; marks++) {
        Check.feed(y, "hump 1 " + (marks == 0 ? "tower" : "bare") + ";years " + from + " 99;");
        y.text(1, y.count(1) == 0 ? -1 : 0);
        int first = -1;
        int last = -1;
        for (int year = from; year <= 99; year++) {
          boolean stands = year % 8 == 3 && year < 92 || year % 8 == 4 && year < 93;
          if (stands == (marks == 0)) {
            first = first < 0 ? year : first;
            last = year;
          }
        }
        Check.due("22: of many TOWERS from " + from + ", " + marks, y.since(0, 0, false), first);
        Check.due("22: of many TOWERS until 99, from " + from + ", " + marks, y.since(0, 0, true), last);
      }
    }
    // of any place: one in the first years, another one in the last ones
    HillSketch z = Check.on("size 3 3;haze 1;heights 0 9 0 0 0 0 0 8;tower 1 5 5;tower 7 95 95;", "hump 1 tower;half;");
    Check.due("22: the first one of some PLACE", z.since(0, 0, false), 5);
    Check.due("22: the last one of some other PLACE", z.since(0, 0, true), 95);
  }

  /** A LAKE ahead of each of twelve HUMPS, strictly between its direction and that of the one ahead. */
  private static void lakes() {
    for (int turned = 0; turned < 2; turned++) {
      for (int i = 0; i < 12; i++) {
        StringBuilder s = new StringBuilder("half;" + (turned == 1 ? "turned;" : ""));
        for (int k = 0; k < 12; k++) s.append("hump 5").append(k == i ? " lake;" : ";");
        HillSketch none = Check.on(ladder(24), s.toString());
        firstIs("a LAKE ahead of " + i + ", without", none, 0, 0, i == 0 ? 12 : i);
        for (int ray = 0; ray < 48; ray += 1) {
          HillSketch x = Check.on(ladder(24) + "lake " + RAY[ray] + ";", s.toString());
          for (int start = 0; start < 24; start += 1 + (ray + i) % 4) {
            // the RAY between HUMPS START + i - 1 and START + i, or START - i and START - i + 1
            int between = Math.floorMod(turned == 1 ? 2 * (start - i) + 1 : 2 * (start + i) - 1, 48);
            boolean fits = i == 0 || between == ray;
            Check.due("15: LAKE on RAY " + ray + " ahead of " + i + " from " + start, x.first(0, 0, MIDDLE, start, 7), fits ? 12 : i);
          }
        }
      }
    }
  }

  /** Two HUMPS have a LAKE between them on the one side or on the other one. */
  private static void lakesOfTwo() {
    int[] around = {1, 2, 5, 8, 7, 6, 3, 0};
    for (int a = 0; a < 8; a++) {
      for (int b = 0; b < 8; b++) {
        int apart = Math.floorMod(b - a, 8);
        if (apart < 2 || apart > 6) continue;
        for (int lake = 0; lake < 8; lake++) {
          int[] z = new int[9];
          z[around[a]] = 9;
          z[around[b]] = 9;
          StringBuilder s = new StringBuilder("size 3 3;heights");
          for (int h : z) s.append(' ').append(h);
          HillSketch x = Check.on(s + ";lake " + around[lake] + ";", "hump 1;hump 1 lake;", "hump 1;hump 1 lake;turned;", "hump 1 lake;hump 1;");
          int start = a < b ? 0 : 1;
          int turn = Math.floorMod(lake - a, 8);
          boolean between = turn > 0 && turn < apart;
          boolean beyond = turn > apart;
          String name = "HUMPS " + a + " and " + b + ", LAKE " + lake;
          Check.due("15: clockwise, " + name, x.first(0, 0, 4, start, -1), between ? 2 : 1);
          Check.due("15: TURNED, " + name, x.first(0, 1, 4, start, -1), beyond ? 2 : 1);
          Check.due("15: ahead of the first one, " + name, x.first(0, 2, 4, start, -1), 2);
          Check.due("33: LAKES are not asked for, " + name, x.wrong(0, 0, 4, start), 0);
        }
      }
    }
  }

  /** HUMPS to the north and to the south, all else is level with the middle, and something is to the east. */
  private static String level(int near, int far) {
    int[] z = new int[25];
    java.util.Arrays.fill(z, 5);
    z[7] = 14;
    z[17] = 14;
    z[13] = near;
    z[14] = far;
    StringBuilder s = new StringBuilder("size 5 5;heights");
    for (int h : z) s.append(' ').append(h);
    return s.append(';').toString();
  }

  private static void lakesUnseen() {
    String sketch = "hump 1;hump 1 lake;";
    HillSketch x = Check.on(level(5, 5) + "lake 14;", sketch);
    Check.due("13: two HUMPS", x.hump(0, 12, -1), 2);
    Check.due("11: as steep as a nearer one is not SEEN", x.seen(0, 12, 14), 0);
    Check.due("15: as steep as a nearer one is no LAKE", x.first(0, 0, 12, 0, -1), 1);
    x.mend(0, 13, 4);
    Check.due("11: steeper than a nearer one is SEEN", x.seen(0, 12, 14), 1);
    Check.due("15: steeper than a nearer one is a LAKE", x.first(0, 0, 12, 0, -1), 2);
    HillSketch near = Check.on(level(4, 5) + "lake 13;", sketch);
    Check.due("15: one that is not the TOP, but SEEN", near.first(0, 0, 12, 0, -1), 2);
    Check.due("15: not in HAZE", Check.on(level(4, 5) + "lake 14;haze 3;", sketch).first(0, 0, 12, 0, -1), 1);
    Check.due("15: just in HAZE", Check.on(level(4, 5) + "lake 14;haze 4;", sketch).first(0, 0, 12, 0, -1), 2);
    Check.due("15: at the PLACE itself", Check.on(level(4, 5) + "lake 12;", sketch).first(0, 0, 12, 0, -1), 1);
    Check.due("15: a TOWER is no LAKE", Check.on(level(4, 5) + "tower 13 0 99;", sketch).first(0, 0, 12, 0, -1), 1);
    Check.due("15: at the TOP of the one", Check.on(level(4, 5) + "lake 7;", sketch).first(0, 0, 12, 0, -1), 1);
    Check.due("15: at the TOP of the other one", Check.on(level(4, 5) + "lake 17;", sketch).first(0, 0, 12, 0, -1), 1);
    Check.due("15: on the other side", Check.on(level(4, 5) + "lake 11;", sketch).first(0, 0, 12, 0, -1), 1);
    HillSketch all = Check.on(level(4, 5) + "lake 13;", sketch + "years 3 3;");
    for (int year : new int[] {-1, 0, 3, 50, 99}) Check.due("15: a LAKE in all YEARS, " + year, all.first(0, 0, 12, 0, year), 2);
  }

  /** The last one of twelve THINGS counts as the first one does. */
  private static void twelfthThing() {
    for (int k = 0; k < 12; k++) {
      String things = "lake 5;tower 5 0 99;".repeat(6);
      String[] row = things.split("(?<=;)");
      row[k] = "lake " + RAY[1] + ";";
      HillSketch x = Check.on(ladder(3) + String.join("", row), "hump 1;hump 2 lake;hump 3;");
      Check.due("15: LAKE " + k + " of twelve THINGS", x.first(0, 0, MIDDLE, 0, -1), 3);
      row[k] = "tower " + RAY[2] + " 70 70;";
      HillSketch y = Check.on(ladder(3) + String.join("", row), "hump 1;hump 2 tower;hump 3;", "hump 1;hump 2 bare;hump 3;");
      Check.due("15: TOWER " + k + " of twelve THINGS", y.first(0, 0, MIDDLE, 0, -1), 3);
      Check.due("15: TOWER " + k + " of twelve THINGS in its YEAR", y.first(0, 0, MIDDLE, 0, 70), 3);
      Check.due("15: TOWER " + k + " of twelve THINGS, not yet", y.first(0, 0, MIDDLE, 0, 69), 1);
      Check.due("22: TOWER " + k + " of twelve THINGS", y.since(0, 0, false), 70);
      Check.due("15: BARE but for TOWER " + k, y.first(0, 1, MIDDLE, 0, 70), 1);
    }
    String lakes = "";
    for (int k = 0; k < 12; k++) lakes += "lake " + RAY[2 * k + 1] + ";";
    HillSketch z = Check.on(ladder(24) + lakes, "hump 1" + ";hump 1 lake".repeat(11) + ";half;");
    firstIs("eleven LAKES", z, 0, 0, 12);
    firstIs("eleven LAKES", z, 0, 1, 12);
    firstIs("eleven LAKES", z, 0, 2, 11);
  }

  /** PLACE 143 of the largest land, and PLACE 0: they count as any other one. */
  private static void lastPlaces() {
    for (int p : new int[] {0, 63, 64, 127, 128, 143}) {
      HillSketch x = Check.on("size 12 12;", "hump 1;half;");
      x.mend(0, p, 999);
      int all = x.where(0, 0, -1, -1);
      Check.due("17: all others at least", all >= 143, true);
      Check.due("17: the last one of them", x.where(0, 0, -1, all - 1), p == 143 && all == 143 ? 142 : 143);
      Check.due("17: the first one of them", x.where(0, 0, -1, 0), p == 0 && all == 143 ? 1 : 0);
      Check.due("17: one more", x.where(0, 0, -1, all), -1);
      Check.due("18: the hill is one of them", hasHill(x, p), true);
      for (int k : new int[] {MIN, -2, 144, MAX}) {
        Check.due("17: k " + k, x.where(0, 0, -1, k), -1);
        Check.due("18: k " + k, x.hills(0, 0, 0, k), -1);
      }
      x.mend(0, p, 0);
      Check.due("17: nowhere on a flat land", x.where(0, 0, -1, -1), 0);
      Check.due("20: all are barred by the first one", x.bars(0, 0, 0), 144);
    }
  }

  private static boolean hasHill(HillSketch x, int p) {
    int all = x.hills(0, 0, 0, -1);
    int last = -1;
    boolean has = false;
    for (int k = 0; k < all; k++) {
      int hill = x.hills(0, 0, 0, k);
      if (hill <= last) Check.due("18: by numbers", hill, last + 1);
      last = hill;
      has |= hill == p;
    }
    Check.due("18: one more", x.hills(0, 0, 0, all), -1);
    return has;
  }

  /** By all PLACES and STARTS with FIRST n; SURE with just one. */
  private static void hills() {
    HillSketch x = Check.on("size 3 3;haze 1;heights 0 9 0 0 0 0 0 9;", "hump 1;half;", "hump 1;hump 1;", "hump 2;hump 1;", "hump 1;hump 1;hump 1;");
    // with HAZE 1 only 4 has both of them; 3 and 5 have none, of 1 and 7 it is that of lower sides
    Check.due("18: of all STARTS", x.hills(0, 1, 0, -1), 2);
    Check.due("18: of all STARTS", x.hills(0, 1, 0, 0), 1);
    Check.due("18: of all STARTS", x.hills(0, 1, 0, 1), 7);
    Check.due("18: of all STARTS", x.hills(0, 1, 1, 0), 1);
    Check.due("18: of all STARTS", x.hills(0, 1, 1, 1), 7);
    Check.due("19: two are not SURE", x.sure(0, 1, 0), false);
    Check.due("18: none", x.hills(0, 2, 0, -1), 0);
    Check.due("18: none", x.hills(0, 2, 0, 0), -1);
    Check.due("19: none is not SURE", x.sure(0, 2, 0), false);
    Check.due("19: n can't be", x.sure(0, 3, 0), false);
    x.mend(0, 7, 8);
    Check.due("18: one hill", x.hills(0, 2, 0, -1), 1);
    Check.due("18: one hill", x.hills(0, 2, 0, 0), 1);
    Check.due("18: another one hill", x.hills(0, 2, 1, 0), 7);
    for (int i = 0; i < 2; i++) Check.due("19: SURE, " + i, x.sure(0, 2, i), true);
    for (int i : new int[] {-1, 2, 11, 12, MIN, MAX}) {
      Check.due("18: HUMP " + i, x.hills(0, 2, i, -1), -1);
      Check.due("18: HUMP " + i, x.hills(0, 2, i, 0), -1);
      Check.due("19: HUMP " + i, x.sure(0, 2, i), false);
      Check.due("20: HUMP " + i, x.bars(0, 2, i), -1);
    }
    for (int i = 0; i < 12; i++) {
      HillSketch y = Check.on(ladder(24), humps(rising(12)) + "half;");
      int all = y.hills(0, 0, i, -1);
      int found = 0;
      for (int k = 0; k < all; k++) {
        int hill = y.hills(0, 0, i, k);
        for (int j = i; j <= 12 + i; j++) found += hill == RAY[2 * j] ? 1 : 0;
      }
      Check.due("18: thirteen of the middle for HUMP " + i, found, 13);
    }
  }

  /** Of each HUMP: the middle alone has so many HUMPS, and its greatest FIRST of all STARTS is i. */
  private static void bars() {
    for (int i = 0; i < 12; i++) {
      StringBuilder s = new StringBuilder("half;");
      for (int k = 0; k < 12; k++) s.append("hump 5").append(k == i ? " tower;" : ";");
      HillSketch x = Check.on(ladder(24), s.toString());
      int can = 0;
      for (int p = 0; p < 81; p++) can += x.hump(0, p, -1) >= 12 ? 1 : 0;
      for (int k = 0; k < 12; k++) {
        int due = (k == i ? can : 0) + (k == 0 ? 81 - can : 0);
        Check.due("20: by a TOWER at " + i + ", HUMP " + k, x.bars(0, 0, k), due);
      }
    }
    HillSketch x = Check.on(ladder(24), humps(alike(12)) + "half;");
    int can = 0;
    for (int p = 0; p < 81; p++) can += x.hump(0, p, -1) >= 12 ? 1 : 0;
    Check.due("20: one that it FITS is not barred", x.bars(0, 0, 0), 81 - can);
    for (int k = 1; k < 12; k++) Check.due("20: one that it FITS is not barred, " + k, x.bars(0, 0, k), 0);
    // the greatest of all STARTS, not the least
    HillSketch y = Check.on(ladder(3), humps(1, 3, 2));
    Check.due("20: of all STARTS", y.first(0, 0, MIDDLE, 2, -1), 1);
    Check.due("20: of all STARTS", y.bars(0, 0, 2) >= 1, true);
  }

  private static void doubt() {
    HillSketch x = Check.on(ladder(24), humps(alike(8)) + "half;", humps(alike(9)) + "half;", humps(alike(8)), humps(rising(8)) + "half;");
    Check.due("21: eight HUMPS", x.doubt(0, 0), 0);
    Check.due("21: nine HUMPS", x.doubt(0, 1), -1);
    Check.due("21: eight that rise", x.doubt(0, 3), 0);
    HillSketch y = Check.on("size 2 2;", humps(alike(8)) + "half;", humps(1), humps(1) + "half;", "hump 1 tower lake;");
    for (int s = 0; s < 4; s++) Check.due("21: without HUMPS none is enough, " + s, y.doubt(0, s), -1);
    // all eight with TOWERS that are nowhere, with LAKES, with both
    String[] marks = {" tower", " lake", " tower lake", " bare"};
    int[] due = {255, 254, 255, 0};
    for (int k = 0; k < 4; k++) {
      HillSketch z = Check.on(ladder(24), ("hump 5" + marks[k] + ";").repeat(8) + "half;");
      Check.due("21: all eight with" + marks[k], z.doubt(0, 0), due[k]);
    }
    // each one alone
    for (int i = 0; i < 8; i++) {
      StringBuilder s = new StringBuilder("half;");
      for (int k = 0; k < 8; k++) s.append("hump 5").append(k == i ? " tower;" : ";");
      HillSketch z = Check.on(ladder(24), s.toString());
      Check.due("21: a TOWER at " + i, z.doubt(0, 0), 1 << i);
    }
    // where the first PLACE alone has two HUMPS, and where the last one has
    for (String land : new String[] {"size 3 2;heights 3 1 0 3 2 2;", "size 2 3;heights 2 0 1 0 1 0;"}) {
      HillSketch z = Check.on(land, humps(5, 5), "hump 5 tower;hump 5 tower;", "hump 5 bare;hump 5;years 3 4;", humps(50, 1) + "true;");
      int only = land.startsWith("size 3") ? 0 : 5;
      for (int p = 0; p < 6; p++) Check.due("13: two HUMPS of " + p, z.hump(0, p, -1) == 2, p == only);
      Check.due("17: it alone", z.where(0, 0, -1, -1), 1);
      Check.due("17: it alone", z.where(0, 0, -1, 0), only);
      Check.due("21: it FITS there alone", z.doubt(0, 0), 0);
      Check.due("21: both are doubted there alone", z.doubt(0, 1), 3);
      Check.due("22: there alone, since", z.since(0, 2, false), 3);
      Check.due("22: there alone, until", z.since(0, 2, true), 4);
      Check.due("34: there alone", z.nearest(0, 3, false), only);
      Check.due("34: there alone", z.nearest(0, 3, true), 1);
      Check.due("20: all others are barred by the first one", z.bars(0, 0, 0), 5);
      Check.due("20: it is barred by the second one", z.bars(0, 3, 1), 1);
    }
    // a doubted one asks for nothing, but the next one's LAKE is asked for
    HillSketch lake = Check.on(ladder(24), "hump 5 tower;hump 5 lake;half;");
    Check.due("21: a TOWER at 0, a LAKE ahead of 1", lake.doubt(0, 0), 3);
  }

  /** The fewest, and of several the least number: no other place than the middle can have eight that rise. */
  private static void doubtNumbers() {
    String land = ladder(8);
    for (int i = 0; i < 8; i++) {
      for (int k = 0; k < 8; k++) {
        int[] h = {11, 21, 31, 41, 51, 61, 71, 81};
        h[i] = 99 - i;
        h[k] = 1 + k;
        String sketch = humps(h) + "years 7 7;";
        HillSketch x = Check.on(land, sketch);
        Plain y = new Plain();
        y.now.tape = land;
        y.text(0, -1);
        y.now.tape = sketch;
        y.text(1, -1);
        Check.due("21: HUMP " + i + " too high, " + k + " too low", x.doubt(0, 0), y.doubt(0, 0));
      }
    }
    // of two that are held against one another alone the least number is the first one
    HillSketch x = Check.on(ladder(2), humps(2, 1) + "years 5 5;", humps(1, 2) + "years 5 5;");
    Check.due("21: from some START it FITS", x.doubt(0, 0), 0);
    HillSketch y = Check.on("size 3 3;heights 0 5 0 5 5 5 0 5;", humps(5, 5, 5, 6), humps(5, 6, 5, 6), humps(5, 6, 7, 8), humps(8, 5, 5, 8));
    Check.due("21: one of four as steep", y.doubt(0, 0), 8);
    Check.due("21: two of four as steep, the least number", y.doubt(0, 1), 5);
    Check.due("21: three of four as steep, the least number", y.doubt(0, 2), 7);
    Check.due("21: two of four as steep", y.doubt(0, 3), 6);
    // in one YEAR of its own
    HillSketch z = Check.on("size 3 3;heights 0 5 0 5 5 5 0 5;tower 1 0 9;tower 5 10 19;tower 7 20 29;tower 3 25 29;",
      "hump 5 tower;hump 5 tower;hump 5 tower;hump 5 tower;", "hump 5 tower;hump 5 tower;hump 5 tower;hump 5 tower;years 0 24;",
      "hump 5 tower;hump 5 tower;hump 5;hump 5;", "hump 5 tower;hump 5 tower;hump 5;hump 5;years 30 99;");
    int[] due = {3, 7, 0, 3};
    for (int s = 0; s < 4; s++) Check.due("21: in one YEAR, " + s, z.doubt(0, s), due[s]);
  }

  /** The least HEIGHT from 0 to 999, wherever c is. */
  private static void lacks() {
    for (int other : new int[] {0, 1, 2, 500, 998, 999}) {
      HillSketch x = Check.on("size 3 3;eye 9;heights 0 0 0 0 0 0 0 " + other + ";", "hump 2;hump 1;half;", "hump 1;hump 2;half;", "hump 1;half;");
      Plain y = new Plain();
      y.now.tape = "size 3 3;eye 9;heights 0 0 0 0 0 0 0 " + other + ";";
      y.text(0, -1);
      for (String s : new String[] {"hump 2;hump 1;half;", "hump 1;hump 2;half;", "hump 1;half;"}) {
        y.now.tape = s;
        y.text(1, -1);
      }
      for (int s = 0; s < 3; s++) {
        for (int c = 0; c < 9; c++) {
          int due = y.lacks(0, s, 4, c);
          Check.due("30: sketch " + s + ", " + c + " beside " + other, x.lacks(0, s, 4, c), due);
          Check.due("30: it was only asked", x.height(0, c), c == 7 ? other : 0);
        }
      }
    }
    HillSketch x = Check.on("size 3 3;heights 0 5 0 0 0 0 0 998;", humps(2, 1), humps(1, 2), humps(1, 1) + "true;", humps(1, 1));
    Check.due("30: with just the greatest one", x.lacks(0, 0, 4, 1), 1);
    Check.due("30: steeper than 998 from START 1, or less steep from START 0", x.lacks(0, 1, 4, 1), 1);
    Check.due("30: as steep as 998", x.lacks(0, 2, 4, 1), 998);
    Check.due("30: any that is a HUMP", x.lacks(0, 3, 4, 1), 1);
    x.mend(0, 7, 999);
    Check.due("30: as steep as 999", x.lacks(0, 2, 4, 1), 999);
    HillSketch most = Check.on("size 3 3;heights 0 5 0 0 0 0 0 998;tower 1 0 99;", "hump 2 tower;hump 1;");
    Check.due("30: one more than 998", most.lacks(0, 0, 4, 1), 999);
    most.mend(0, 7, 999);
    Check.due("30: 1000 would be too much", most.lacks(0, 0, 4, 1), -1);
    HillSketch far = Check.on("size 12 12;", "hump 1;half;");
    Check.due("30: from the first PLACE to the last one", far.lacks(0, 0, 0, 143), 1);
    Check.due("30: from the last PLACE to the first one", far.lacks(0, 0, 143, 0), 1);
    far.mend(0, 143, 9);
    Check.due("30: with 0 at once", far.lacks(0, 0, 0, 1), 0);
    Check.due("30: what c is now does not matter", far.lacks(0, 0, 0, 143), 1);
    HillSketch one = Check.on("size 3 3;heights 0 999;", "hump 9;hump 1 tower;half;", "hump 5;hump 1;true;half;");
    Check.due("30: with none", one.lacks(0, 0, 4, 7), -1);
    // 25 times the square of one is the square of the other one: 999 and 199.8
    Check.due("30: with none, exactly", one.lacks(0, 1, 4, 7), -1);
    one.mend(0, 1, 995);
    Check.due("30: with one, exactly", one.lacks(0, 1, 4, 7), 199);
  }

  /** LACKS by a LAKE that is to be SEEN: c itself, behind a nearer one and ahead of the TOP of its RAY. */
  private static void lacksLakes() {
    for (int p : new int[] {30, 66, 130}) {
      int[] z = new int[144];
      java.util.Arrays.fill(z, 5);
      z[p - 12] = 14;
      z[p - 15] = 15;
      z[p - 1] = 6;
      z[p - 3] = 10;
      StringBuilder s = new StringBuilder("size 12 12;haze 10;heights");
      for (int h : z) s.append(' ').append(h);
      HillSketch x = Check.on(s + ";lake " + (p - 2) + ";", "hump 1;hump 1 lake;");
      Check.due("13: one to the north, one next to the west, from " + p, x.hump(0, p, -1), 2);
      Check.due("30: the LAKE " + (p - 2) + " is to be SEEN", x.lacks(0, 0, p, p - 2), 8);
      Check.due("30: what hides it is to be lower", x.lacks(0, 0, p, p - 1), 0);
      x.mend(0, p - 2, 8);
      Check.due("11: then it is SEEN", x.seen(0, p, p - 2), 1);
      Check.due("16: then it FITS", x.fits(0, 0, p, -1), 0);
      x.mend(0, p - 2, 7);
      Check.due("16: not yet", x.fits(0, 0, p, -1), -1);
      // asked from elsewhere, where the LAKE is SEEN, and from where it is not in HAZE
      x.lacks(0, 0, p - 13, p - 12);
      Check.due("30: after another one", x.lacks(0, 0, p, p - 2), 8);
    }
  }

  /** The last RAY of the most that there are, and the LAKE at the last PLACE. */
  private static void lastRay() {
    HillSketch x = Check.on("size 12 12;", humps(1, 1), humps(3, 3) + "true;give 99;", humps(2, 1), humps(1, 2));
    int last = x.ray(0, 64, 89);
    int other = x.ray(0, 64, 40);
    Check.due("30: with the last RAY", x.lacks(0, 0, 64, last), -1);
    x.mend(0, other, 9);
    Check.due("30: with the last RAY", x.lacks(0, 0, 64, last), 1);
    x.mend(0, last, 20);
    Check.due("13: HUMPS on RAYS 40 and 89", x.hump(0, 64, 1), last);
    int dx = last % 12 - 4;
    int dy = last / 12 - 5;
    int d = dx * dx + dy * dy;
    int ex = other % 12 - 4;
    int ey = other / 12 - 5;
    int e = ex * ex + ey * ey;
    boolean steeper = 400 * e > 81 * d;
    Check.due("14: HUMPS on RAYS 40 and 89", x.steeper(0, 64, 1, 0), steeper ? 1 : -1);
    Check.due("15: HUMPS on RAYS 40 and 89", x.first(0, 2, 64, 0, -1), steeper ? 1 : 2);
    Check.due("15: HUMPS on RAYS 40 and 89", x.first(0, 3, 64, 0, -1), steeper ? 2 : 1);
    Check.due("15: TRUE, RAYS 40 and 89", x.first(0, 1, 64, 0, -1), 100 * Math.abs(81 * d - 400 * e) <= 99 * 400 * e ? 2 : 1);
    Check.due("15: TRUE, RAYS 89 and 40", x.first(0, 1, 64, 1, -1), 100 * Math.abs(400 * e - 81 * d) <= 99 * 81 * d ? 2 : 1);
    // two HEIGHTS in the proportion of both, from either one on
    int high = 1;
    while (Math.abs(high * high * 400L * e - 2500L * 81 * d) * 4 > 2500L * 81 * d) high++;
    Check.feed(x, humps(high, 50) + "true;give 99;");
    x.text(1, 2);
    Check.feed(x, humps(50, high) + "true;give 99;");
    x.text(1, 3);
    int due = 100 * Math.abs(2500L * 81 * d - (long) high * high * 400 * e) <= 99L * high * high * 400 * e ? 2 : 1;
    Check.due("15: TRUE, from RAY 40 to 89, HEIGHTS " + high + " and 50", x.first(0, 2, 64, 0, -1), due);
    due = 100 * Math.abs((long) high * high * 400 * e - 2500L * 81 * d) <= 99L * 2500 * 81 * d ? 2 : 1;
    Check.due("15: TRUE, from RAY 89 to 40, HEIGHTS 50 and " + high, x.first(0, 3, 64, 1, -1), due);
    Check.due("15: TRUE, HEIGHTS 50 and " + high + " are close enough", due, 2);
    Check.due("32: RAY 89 counts", x.stretch(0, 0, 64, 1, steeper ? false : true, true) > 0, true);
    x.mend(0, other, 0);
    x.mend(0, last, 1);
    Check.feed(x, "hump 1;");
    x.text(1, 0);
    Check.due("32: RAY 89 alone", x.stretch(0, 0, 64, 0, false, false), d);
    Check.due("32: RAY 89 alone", x.stretch(0, 0, 64, 0, false, true), 1);
    // a LAKE at 143, seen from 130 to the south-east, between a HUMP to the east and one to the south
    HillSketch y = Check.on("size 12 12;haze 2;lake 143;", "hump 1;hump 1 lake;");
    y.mend(0, 131, 9);
    y.mend(0, 142, 9);
    Check.due("15: the LAKE at the last PLACE", y.first(0, 0, 130, 0, -1), 2);
    Check.due("15: from the other one on", y.first(0, 0, 130, 1, -1), 1);
    HillSketch z = Check.on("size 12 12;haze 2;lake 0;", "hump 1;hump 1 lake;");
    z.mend(0, 1, 9);
    z.mend(0, 12, 9);
    Check.due("15: the LAKE at the first PLACE", z.first(0, 0, 13, 1, -1), 2);
    Check.due("15: from the other one on", z.first(0, 0, 13, 0, -1), 1);
  }

  private static void isStretch(String name, HillSketch x, int place, int start, int... due) {
    Check.due("32: " + name + ", the least, above", x.stretch(0, 0, place, start, false, false), due[0]);
    Check.due("32: " + name + ", the least, below", x.stretch(0, 0, place, start, false, true), due[1]);
    Check.due("32: " + name + ", the greatest, above", x.stretch(0, 0, place, start, true, false), due[2]);
    Check.due("32: " + name + ", the greatest, below", x.stretch(0, 0, place, start, true, true), due[3]);
  }

  /** Of one HUMP, all RISES and HEIGHTS: in least terms. */
  private static void stretch() {
    for (int rise : new int[] {-2, -1, 0, 1, 2, 3, 4, 6, 12, 500, 990}) {
      for (int height : new int[] {1, 2, 3, 4, 6, 12, 98, 99}) {
        for (int top : new int[] {1, 8}) {
          int[] z = new int[9];
          z[top] = rise + 9;
          z[4] = 0;
          StringBuilder s = new StringBuilder("size 3 3;eye 9;heights");
          for (int h : z) s.append(' ').append(h);
          HillSketch x = Check.on(s + ";", humps(height) + "half;");
          int hump = -1;
          for (int k = 0; k < x.hump(0, 4, -1); k++) hump = x.hump(0, 4, k) == top ? k : hump;
          if (hump < 0) continue;
          long above = (long) height * height * (top == 8 ? 2 : 1);
          long below = (long) rise * rise;
          int least = below == 0 ? 1 : java.math.BigInteger.valueOf(above).gcd(java.math.BigInteger.valueOf(below)).intValue();
          int a = rise > 0 ? (int) (above / least) : -1;
          int b = rise > 0 ? (int) (below / least) : -1;
          isStretch("RISE " + rise + ", HEIGHT " + height + " at " + top, x, 4, hump, a, b, a, b);
        }
      }
    }
    HillSketch far = Check.on("size 12 12;", "hump 99;");
    far.mend(0, 143, 1);
    isStretch("the greatest of all", far, 0, 0, 99 * 99 * 242, 1, 99 * 99 * 242, 1);
    Check.feed(far, "hump 1;");
    far.text(1, 0);
    far.mend(0, 143, 0);
    far.mend(0, 1, 999);
    isStretch("the least of all", far, 0, 0, 1, 998001, 1, 998001);
  }

  private static void stretchNumbers() {
    // of twelve each can be the least and the greatest
    for (int i = 0; i < 12; i++) {
      for (int extreme : new int[] {1, 99}) {
        int[] h = alike(12);
        h[i] = extreme;
        HillSketch x = Check.on(ladder(24), humps(h) + "half;");
        int top = x.hump(0, MIDDLE, i);
        long rise = x.rise(0, MIDDLE, top);
        long above = (long) extreme * extreme * distance(top);
        java.math.BigInteger least = java.math.BigInteger.valueOf(above).gcd(java.math.BigInteger.valueOf(rise * rise));
        boolean most = extreme == 99;
        Check.due("32: HUMP " + i + " is " + extreme + ", above", x.stretch(0, 0, MIDDLE, 0, most, false), above / least.longValue());
        Check.due("32: HUMP " + i + " is " + extreme + ", below", x.stretch(0, 0, MIDDLE, 0, most, true), rise * rise / least.longValue());
      }
    }
    // 2 by 49 is more than 1 by 25, but by a 1225th
    HillSketch close = Check.on("size 3 3;heights 0 5 0 0 0 0 0 0 7;", humps(1, 1));
    isStretch("5 by 1 and 7 by the root of 2", close, 4, 0, 1, 25, 2, 49);
    isStretch("7 by the root of 2 and 5 by 1", close, 4, 1, 1, 25, 2, 49);
    // 2 by 289 is less than 1 by 144, but by a 41616th
    close.mend(0, 1, 12);
    close.mend(0, 8, 17);
    isStretch("12 by 1 and 17 by the root of 2", close, 4, 0, 2, 289, 1, 144);
    isStretch("17 by the root of 2 and 12 by 1", close, 4, 1, 2, 289, 1, 144);
    // HUMPS with a RISE of 0 or below are left out, be they the first ones or the last ones
    HillSketch x = Check.on("size 3 3;eye 1;heights 0 1 0 2 0 0 0 3;", humps(2, 2, 2));
    Check.due("32: three HUMPS", x.hump(0, 4, -1), 3);
    isStretch("RISES 0, 2, 1", x, 4, 0, 1, 1, 4, 1);
    isStretch("RISES 2, 1, 0", x, 4, 1, 1, 1, 4, 1);
    isStretch("RISES 1, 0, 2", x, 4, 2, 1, 1, 4, 1);
    HillSketch down = Check.on("size 3 3;eye 9;heights 0 1 0 2 0 0 0 9;", humps(2, 2, 2));
    isStretch("RISES below 0 and 0", down, 4, 0, -1, -1, -1, -1);
    // a sketch by ORDER or TRUE, TURNED or not: the same HUMPS, the same STRETCH
    HillSketch turned = Check.on(ladder(3), humps(9, 5, 1) + "turned;true;give 99;");
    HillSketch plain = Check.on(ladder(3), humps(1, 5, 9));
    for (int k = 0; k < 4; k++) {
      Check.due("32: TURNED, TRUE, " + k, turned.stretch(0, 0, MIDDLE, 2, k > 1, k % 2 == 1), plain.stretch(0, 0, MIDDLE, 0, k > 1, k % 2 == 1));
    }
  }

  private static void wrong() {
    for (int n = 1; n <= 12; n++) {
      HillSketch x = Check.on(ladder(24), humps(falling(n)) + "half;", humps(falling(n)) + "half;true;", humps(falling(n)) + "half;give " + Math.max(0, n - 2) + ";");
      Check.due("33: all couples of " + n, x.wrong(0, 0, MIDDLE, 0), n * (n - 1) / 2);
      Check.due("33: but those that GIVE lets be, of " + n, x.wrong(0, 2, MIDDLE, 0), n > 1 ? 1 : 0);
    }
  }

  /** The least WRONG of some START; of several PLACES the least. */
  private static void nearest() {
    HillSketch x = Check.on("size 3 3;haze 1;heights 0 9 0 0 0 0 0 8;", humps(1, 2), humps(5) + "half;", humps(1, 2, 3), humps(9, 1) + "true;");
    Check.due("34: from some START none is WRONG", x.nearest(0, 0, true), 0);
    Check.due("34: the one that has two", x.nearest(0, 0, false), 4);
    Check.due("34: n can be nowhere", x.nearest(0, 2, true), -1);
    Check.due("34: n can be nowhere", x.nearest(0, 2, false), -1);
    Check.due("34: one WRONG is the least", x.nearest(0, 3, true), 1);
    Check.due("34: one WRONG is the least", x.nearest(0, 3, false), 4);
    HillSketch y = Check.on("size 12 12;", "hump 1;half;");
    y.mend(0, 143, 9);
    Check.due("34: of several the least", y.nearest(0, 0, false), 0);
    // only the last one has HUMPS
    HillSketch z = Check.on("size 2 2;heights 5 0 0 0;", "hump 1;half;");
    int least = -1;
    for (int p = 3; p >= 0; p--) if (z.hump(0, p, -1) > 0) least = p;
    Check.due("34: the least that has HUMPS", z.nearest(0, 0, false), least);
    // the greatest WRONG that there can be: from above all, no RISE is above 0
    StringBuilder low = new StringBuilder("size 12 12;eye 9;heights");
    for (int p = 0; p < 144; p++) low.append(' ').append(p * p % 7);
    HillSketch below = Check.on(low + ";", humps(alike(12)) + "half;true;give 99;", humps(alike(2)) + "half;true;");
    int first = -1;
    for (int p = 143; p >= 0; p--) if (below.hump(0, p, -1) >= 12) first = p;
    Check.due("34: some place has twelve HUMPS", first >= 0, true);
    Check.due("34: all 66 are WRONG", below.nearest(0, 0, true), 66);
    Check.due("34: the least of those that have twelve", below.nearest(0, 0, false), first);
    Check.due("33: all 66 are WRONG", below.wrong(0, 0, first, 5), 66);
    Check.due("34: the one couple is WRONG", below.nearest(0, 1, true), 1);
    Check.due("32: no RISE above 0", below.stretch(0, 0, first, 5, true, true), -1);
  }

  /** Couples of all PLACES that see the one hill, by their distance squared. */
  private static void pairs() {
    HillSketch x = Check.on("size 12 12;", "hump 1;half;", "hump 1;hump 1;hump 1;");
    x.mend(0, 70, 999);
    boolean[] fits = new boolean[144];
    for (int k = 0; k < x.where(0, 0, -1, -1); k++) fits[x.where(0, 0, -1, k)] = true;
    for (int l : new int[] {0, 1, 2, 3, 4, 5, 120, 121, 122, 200, 220, 221, 240, 241, 242, 243, 998, 999}) {
      int due = 0;
      for (int p = 0; p < 144; p++) {
        for (int q = 0; q < 144; q++) {
          int dx = p % 12 - q % 12;
          int dy = p / 12 - q / 12;
          due += fits[p] && fits[q] && dx * dx + dy * dy <= l ? 1 : 0;
        }
      }
      Check.due("23: by " + l, x.pairs(0, 0, 0, l), due);
    }
    Check.due("23: with none", x.pairs(0, 0, 1, 999), 0);
    Check.due("23: of none", x.pairs(0, 1, 0, 999), 0);
    for (int l : new int[] {MIN, -1, 1000, MAX}) Check.due("23: by " + l, x.pairs(0, 0, 0, l), -1);
  }

  /** A HEIGHT is at most c away, up or down: between two PLACES each of which has a number of HUMPS of its own. */
  private static void way() {
    // by HAZE 1 the middle has two HUMPS, north and south; the one to the west of it has one
    for (int h : new int[] {0, 1, 500, 998, 999}) {
      String land = "size 5 3;haze 1;heights 0 0 999 0 0 0 0 0 " + h + " 0 0 0 999;";
      HillSketch x = Check.on(land, humps(1, 1), humps(1));
      Plain y = new Plain();
      y.now.tape = land;
      y.text(0, -1);
      for (int n = 2; n > 0; n--) {
        y.now.tape = humps(rising(n)) + "give 99;";
        y.text(1, -1);
      }
      for (int c : new int[] {0, 1, 2, 499, 500, 501, 997, 998, 999}) {
        for (int k = 0; k < 4; k++) Check.due("24: HEIGHT " + h + " by " + c + ", " + k, x.way(0, k / 2, k % 2, c), y.way(0, k / 2, k % 2, c));
      }
      for (int c : new int[] {MIN, -1, 1000, MAX}) Check.due("24: by " + c, x.way(0, 0, 1, c), -1);
    }
    // one step from 1 to 0 and back is as steep as c or it is none
    for (int up : new int[] {0, 1, 7, 999}) {
      HillSketch x = Check.on("size 3 2;haze 1;heights 0 0 " + up + ";", humps(1) + "half;", humps(1, 1));
      Check.due("24: to none", x.way(0, 0, 1, 999), -1);
      Check.due("24: from none", x.way(0, 1, 0, 999), -1);
    }
  }
}
