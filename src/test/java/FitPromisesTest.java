/** Promises 15 to 27, 30 and 32 to 36: where sketches fit, how wrong they are, what is drawn from a place. */
public final class FitPromisesTest {
  private static final int MIN = Integer.MIN_VALUE;
  private static final int MAX = Integer.MAX_VALUE;

  /**
   * The humps of its places, with rise / distance squared: 0: 5 (8/5), 3 (3/1); 1: 5 (7/2), 3 (2/2); 3: 5 (5/4), 7 (2/2);
   * 4: 5 (9/1), 7 (6/1), 3 (4/1); 5: 8 (-2/1), 6 (-4/5); of 2, 6, 7 and 8 only 5.
   */
  private static final String RING = "size 3 3;heights 1 2 3 4 0 9 5 6 7;";
  private static final String TOWERS = RING + "lake 1;tower 5 10 20;tower 7 30 40;";
  private static final String HIGH_LOW = "hump 9;hump 5;";
  private static final String ODD = "hump 3;hump 1;hump 2;";

  public static void main(String[] args) {
    first();
    firstTrue();
    firstMarks();
    firstYears();
    fits();
    where();
    hills();
    sure();
    bars();
    doubt();
    since();
    pairs();
    way();
    draw();
    rivals();
    known();
    lacks();
    stretch();
    wrong();
    nearest();
    scrawl();
    found();
    Check.finish("FitPromisesTest");
  }

  /** FIRST at place 4 from a start on, of a sketch told as a text. */
  private static int firstOf(String land, String sketch, int start, int year) {
    return Check.on(land, sketch).first(0, 0, 4, start, year);
  }

  private static void first() {
    int[] odd = {2, 2, 1};
    int[] turned = {3, 1, 1};
    for (int start = 0; start < 3; start++) {
      Check.due("15: by order, " + start, firstOf(RING, ODD, start, -1), odd[start]);
      Check.due("15: turned, " + start, firstOf(RING, ODD + "turned;", start, -1), turned[start]);
    }
    Check.due("15: give of 1", firstOf(RING, ODD + "give 1;", 0, -1), 3);
    for (String sketch : new String[] {"hump 1;hump 2;", "hump 2;hump 1;"}) {
      HillSketch alike = Check.on("size 9 9;", sketch);
      alike.mend(0, 31, 5);
      alike.mend(0, 7, 25);
      Check.due("15: neither is steeper, " + sketch, alike.first(0, 0, 40, 0, -1), 1);
    }
    Check.due("15: as high ones ask for nothing", firstOf(RING, "hump 1;hump 1;hump 1;", 2, 0), 3);
    Check.due("15: fewer, whole", firstOf(RING, HIGH_LOW, 0, 5), 0);
    Check.due("15: fewer, half", firstOf(RING, HIGH_LOW + "half;", 0, 5), 2);
    Check.due("15: more, half", firstOf(RING, "hump 4;hump 3;hump 2;hump 1;half;", 0, 5), 0);
    Check.due("15: as many, half", firstOf(RING, "hump 3;hump 2;hump 1;half;", 0, 5), 3);
    HillSketch x = Check.on(RING, ODD);
    for (int start : new int[] {-1, 3, MIN, MAX}) Check.due("15: no start " + start, x.first(0, 0, 4, start, -1), -1);
    for (int year : new int[] {-2, 100, MIN, MAX}) Check.due("15: no year " + year, x.first(0, 0, 4, 0, year), -1);
    for (int p : new int[] {-1, 9, MIN, MAX}) Check.due("15: no place " + p, x.first(0, 0, p, 0, -1), -1);
    Check.due("15: no sketch", x.first(0, 1, 4, 0, -1), -1);
    Check.due("15: no sketch", x.first(0, -1, 4, 0, -1), -1);
    Check.due("15: no land", x.first(1, 0, 4, 0, -1), -1);
    Check.due("15: no land", x.first(-1, 0, 4, 0, -1), -1);
    Check.due("15: a place without humps has no start", Check.on("", "hump 1;").first(0, 0, 0, 0, -1), -1);
  }

  private static void firstTrue() {
    Check.due("15: true, exactly", firstOf(RING, "hump 9;hump 6;hump 4;true;", 0, 0), 3);
    Check.due("15: true, twice as much", firstOf(RING, "hump 18;hump 12;hump 8;true;", 0, 0), 3);
    Check.due("15: true, one off", firstOf(RING, "hump 18;hump 12;hump 9;true;", 0, 0), 2);
    // 64 * 81 = 5184 is 44 of 100 of 3600 away from 100 * 36
    Check.due("15: true, give of just so much", firstOf(RING, "hump 10;hump 8;half;true;give 44;", 0, 0), 2);
    Check.due("15: true, give of one less", firstOf(RING, "hump 10;hump 8;half;true;give 43;", 0, 0), 1);
    // 16 * 81 = 1296 is 64 of 100 of 3600 away from it, from below
    Check.due("15: true, away from the later one's side", firstOf(RING, "hump 10;hump 4;half;true;give 64;", 0, 0), 2);
    Check.due("15: true, away from the later one's side", firstOf(RING, "hump 10;hump 4;half;true;give 63;", 0, 0), 1);
    HillSketch x = Check.on(RING, "hump 1;hump 1;true;give 99;", "hump 7;true;half;");
    Check.due("15: true, rises below 0", x.first(0, 0, 5, 0, 0), 1);
    Check.due("15: true, one alone is held against none", x.first(0, 1, 5, 0, 0), 1);
    HillSketch y = Check.on(RING, "hump 81;hump 68;true;give 1;", "hump 80;hump 67;true;give 0;");
    // rises 8 and 3 with distances squared 5 and 1: 68 * 68 * 64 = 295936, 81 * 81 * 9 * 5 = 295245
    Check.due("15: true, with distances", y.first(0, 0, 0, 0, 0), 2);
    Check.due("15: true, with distances", y.first(0, 1, 0, 0, 0), 1);
  }

  private static void firstMarks() {
    // the lake, 1, is to the north of 4, as one goes from 3 in the west to 5 in the east
    Check.due("15: lake ahead", firstOf(TOWERS, "hump 1;hump 1 lake;half;", 2, 0), 2);
    Check.due("15: no lake between 5 and 7", firstOf(TOWERS, "hump 1;hump 1 lake;half;", 0, 0), 1);
    Check.due("15: no lake between 7 and 3", firstOf(TOWERS, "hump 1;hump 1 lake;half;", 1, 0), 1);
    Check.due("15: lake ahead, turned", firstOf(TOWERS, "hump 1;hump 1 lake;half;turned;", 0, 0), 2);
    Check.due("15: none, turned", firstOf(TOWERS, "hump 1;hump 1 lake;half;turned;", 1, 0), 1);
    Check.due("15: ahead of the first one it asks for nothing", firstOf(RING, "hump 1 lake;half;", 0, 0), 1);
    Check.due("15: a lake at a top is not between", firstOf(RING + "lake 5;lake 7;", "hump 1;hump 1 lake;half;", 0, 0), 1);
    Check.due("15: a tower is no lake", firstOf(RING + "tower 8 0 99;", "hump 1;hump 1 lake;half;", 0, 0), 1);
    Check.due("15: a lake between", firstOf(RING + "lake 8;", "hump 1;hump 1 lake;half;", 0, 0), 2);
    // from 0 the ray of 8 goes by 4, which hides nothing, between those of 5 and 3
    HillSketch x = Check.on(RING + "lake 8;", "hump 9;hump 5 lake;");
    Check.due("15: a lake that is seen", x.first(0, 0, 0, 0, 0), 2);
    x.mend(0, 4, 5);
    Check.due("15: a lake that is not", x.seen(0, 0, 8), 0);
    Check.due("15: a lake that is not", x.first(0, 0, 0, 0, 0), 1);
    Check.due("15: a tower of that year", firstOf(TOWERS, "hump 1 tower;half;", 0, 10), 1);
    Check.due("15: a tower of that year", firstOf(TOWERS, "hump 1 tower;half;", 0, 20), 1);
    Check.due("15: no tower yet", firstOf(TOWERS, "hump 1 tower;half;", 0, 9), 0);
    Check.due("15: no tower any more", firstOf(TOWERS, "hump 1 tower;half;", 0, 21), 0);
    Check.due("15: bare", firstOf(TOWERS, "hump 1 bare;half;", 0, 9), 1);
    Check.due("15: not bare", firstOf(TOWERS, "hump 1 bare;half;", 0, 10), 0);
    Check.due("15: a lake is no tower", firstOf(RING + "lake 5;", "hump 1 bare;half;", 0, 10), 1);
  }

  private static void firstYears() {
    String both = "hump 2 tower;hump 1 tower;half;";
    Check.due("15: no one year has both", firstOf(TOWERS, both, 0, -1), 1);
    Check.due("15: the greatest of all years", firstOf(TOWERS, "hump 2 tower;hump 1;half;", 0, -1), 2);
    Check.due("15: only its years", firstOf(TOWERS, "hump 2 tower;hump 1;half;years 0 9;", 0, -1), 0);
    Check.due("15: only its years", firstOf(TOWERS, "hump 2 tower;hump 1;half;years 20 29;", 0, -1), 2);
    Check.due("15: a year that is asked for, of its own or not", firstOf(TOWERS, "hump 2 tower;hump 1;half;years 0 9;", 0, 10), 2);
    Check.due("15: from one year on", firstOf(RING + "tower 5 0 50;", "hump 2 bare;half;", 0, -1), 1);
    String often = RING + "tower 5 60 70;tower 7 20 30;tower 5 20 20;tower 3 90 99;tower 7 95 98;tower 5 98 98;";
    Check.due("15: years of many towers", firstOf(often, both, 0, -1), 2);
    Check.due("15: years of many towers", firstOf(often, both + "years 21 99;", 0, -1), 2);
    Check.due("15: years of many towers", firstOf(often, both + "years 21 97;", 0, -1), 1);
    Check.due("15: years of many towers", firstOf(often, "hump 3 tower;hump 2 tower;hump 1 tower;", 0, -1), 3);
    Check.due("15: the last year", firstOf(often, "hump 1 tower;half;", 2, 99), 1);
    Check.due("15: the first year", firstOf(RING + "tower 3 0 0;", "hump 1 tower;half;", 2, 0), 1);
    Check.due("15: both at once", firstOf(RING + "tower 5 0 50;tower 7 50 60;", both, 0, -1), 2);
  }

  private static void fits() {
    HillSketch x = Check.on(RING, HIGH_LOW, "hump 1;hump 1;hump 1;", ODD);
    int[] high = {0, 0, -1, 0, -1, 1, -1, -1, -1};
    for (int p = 0; p < 9; p++) Check.due("16: place " + p, x.fits(0, 0, p, -1), high[p]);
    Check.due("16: the least start", x.fits(0, 1, 4, 7), 0);
    Check.due("16: it does not", x.fits(0, 2, 4, -1), -1);
    HillSketch y = Check.on(TOWERS, "hump 1 tower;half;");
    Check.due("16: in all years", y.fits(0, 0, 4, -1), 0);
    Check.due("16: in one", y.fits(0, 0, 4, 35), 1);
    Check.due("16: in none of these", y.fits(0, 0, 4, 25), -1);
    Check.due("16: no year", y.fits(0, 0, 4, 100), -1);
    Check.due("16: no year", y.fits(0, 0, 4, -2), -1);
    Check.due("16: no place", y.fits(0, 0, 9, -1), -1);
    Check.due("16: no sketch", y.fits(0, 1, 4, -1), -1);
    Check.due("16: no land", y.fits(1, 0, 4, -1), -1);
  }

  private static void where() {
    HillSketch x = Check.on(TOWERS, HIGH_LOW, "hump 1 tower;half;");
    int[] places = {0, 1, 3, 5};
    Check.due("17: how many", x.where(0, 0, -1, -1), 4);
    for (int k = 0; k < 4; k++) Check.due("17: place " + k, x.where(0, 0, -1, k), places[k]);
    for (int k : new int[] {-2, 4, MIN, MAX}) Check.due("17: no place " + k, x.where(0, 0, -1, k), -1);
    Check.due("17: all that see 5", x.where(0, 1, 10, -1), 8);
    Check.due("17: those of which 7 is a hump", x.where(0, 1, 30, -1), 2);
    Check.due("17: those of which 7 is a hump", x.where(0, 1, 30, 0), 3);
    Check.due("17: nobody", x.where(0, 1, 25, -1), 0);
    for (int year : new int[] {-2, 100, MIN, MAX}) Check.due("17: no year " + year, x.where(0, 0, year, -1), -1);
    Check.due("17: no sketch", x.where(0, 2, -1, -1), -1);
    Check.due("17: no land", x.where(1, 0, -1, -1), -1);
  }

  private static void hills() {
    HillSketch x = Check.on(RING, HIGH_LOW, "hump 1;hump 1;hump 1;");
    int[][] tops = {{5, 6}, {3, 7, 8}};
    for (int i = 0; i < 2; i++) {
      Check.due("18: how many, " + i, x.hills(0, 0, i, -1), tops[i].length);
      for (int k = 0; k < tops[i].length; k++) Check.due("18: hump " + i + ", hill " + k, x.hills(0, 0, i, k), tops[i][k]);
      Check.due("18: no more", x.hills(0, 0, i, tops[i].length), -1);
    }
    HillSketch corner = Check.on("size 3 3;heights 9;", "hump 1;half;");
    Check.due("18: hill 0", corner.hills(0, 0, 0, 0), 0);
    Check.due("18: by all starts", x.hills(0, 1, 0, -1), 3);
    for (int i : new int[] {-1, 2, MIN, MAX}) Check.due("18: no hump " + i, x.hills(0, 0, i, -1), -1);
    Check.due("18: no hill", x.hills(0, 0, 0, -2), -1);
    Check.due("18: no sketch", x.hills(0, 2, 0, -1), -1);
    Check.due("18: no land", x.hills(1, 0, 0, -1), -1);
  }

  private static void sure() {
    HillSketch x = Check.on(RING, HIGH_LOW, "hump 3;hump 2;hump 1;", "hump 1;", ODD);
    Check.due("19: two hills", x.sure(0, 0, 0), false);
    for (int i = 0; i < 3; i++) Check.due("19: one hill", x.sure(0, 1, i), true);
    Check.due("19: one hill of many places", x.sure(0, 2, 0), true);
    Check.due("19: no hill", x.sure(0, 3, 0), false);
    Check.due("19: no hump", x.sure(0, 1, 3), false);
    Check.due("19: no hump", x.sure(0, 1, -1), false);
    Check.due("19: no sketch", x.sure(0, 4, 0), false);
    Check.due("19: no land", x.sure(1, 1, 0), false);
  }

  private static void bars() {
    HillSketch x = Check.on(RING, HIGH_LOW, ODD, "hump 1 tower;half;");
    int[][] bars = {{5, 0}, {8, 0, 1}, {9}};
    for (int s = 0; s < 3; s++) {
      for (int i = 0; i < bars[s].length; i++) Check.due("20: sketch " + s + ", hump " + i, x.bars(0, s, i), bars[s][i]);
      Check.due("20: no hump", x.bars(0, s, bars[s].length), -1);
      Check.due("20: no hump", x.bars(0, s, -1), -1);
    }
    Check.due("20: no sketch", x.bars(0, 3, 0), -1);
    Check.due("20: no land", x.bars(1, 0, 0), -1);
  }

  private static void doubt() {
    HillSketch x = Check.on(RING, HIGH_LOW, ODD, "hump 1;hump 2;hump 3;hump 4;", "hump 3;hump 2 tower;hump 1;");
    Check.due("21: it fits", x.doubt(0, 0), 0);
    Check.due("21: of several the least", x.doubt(0, 1), 1);
    Check.due("21: none is enough", x.doubt(0, 2), -1);
    Check.due("21: it asks for nothing", x.doubt(0, 3), 2);
    HillSketch y = Check.on(TOWERS, "hump 2 tower;hump 1 tower;hump 1;", "hump 3 tower;hump 3 tower;hump 1 tower;",
      "hump 1;hump 2 lake;hump 3 lake;", "hump 1 tower lake;hump 99 bare;hump 1 lake;hump 1;hump 2;hump 1;hump 3;hump 2;half;");
    Check.due("21: in one year", y.doubt(0, 0), 1);
    Check.due("21: the fewest, then the least number", y.doubt(0, 1), 3);
    Check.due("21: lakes", y.doubt(0, 2), 2);
    Check.due("21: eight humps are nowhere", y.doubt(0, 3), -1);
    // going around, its steepness goes up all the way but once
    HillSketch z = many();
    Check.sketch(z, "hump 1;".repeat(9) + "half;");
    Check.sketch(z, "hump 1;hump 2;hump 3;hump 4;hump 5;hump 6;hump 7;hump 8 tower;half;");
    Check.sketch(z, "hump 1;hump 1;hump 1;hump 1;hump 1;hump 1;hump 1;hump 1;half;");
    Check.due("21: nine humps", z.doubt(0, 0), -1);
    Check.due("21: eight humps", z.doubt(0, 2), 0);
    Check.due("21: eight humps, with a tower", Integer.bitCount(z.doubt(0, 1) & 128), 1);
    Check.due("21: no sketch", x.doubt(0, 4), -1);
    Check.due("21: no land", x.doubt(1, 0), -1);
  }

  private static void since() {
    HillSketch x = Check.on(TOWERS, "hump 1 tower;half;", "hump 1 tower;half;years 15 35;", "hump 1 tower;half;years 21 29;",
      "hump 3 bare;hump 2 bare;hump 1;");
    int[][] years = {{10, 40}, {15, 35}, {-1, -1}, {0, 99}};
    for (int s = 0; s < 4; s++) {
      Check.due("22: since, " + s, x.since(0, s, false), years[s][0]);
      Check.due("22: until, " + s, x.since(0, s, true), years[s][1]);
    }
    HillSketch y = Check.on(RING + "tower 5 0 30;tower 7 60 99;", "hump 3 bare;hump 2 bare;hump 1;", HIGH_LOW + "years 7 8;",
      "hump 3;hump 2;hump 1 tower;");
    Check.due("22: since none", y.since(0, 0, false), 31);
    Check.due("22: until some", y.since(0, 0, true), 59);
    Check.due("22: without towers", y.since(0, 1, false), 7);
    Check.due("22: without towers", y.since(0, 1, true), 8);
    Check.due("22: in none", y.since(0, 2, true), -1);
    // only 4 has three humps; 5 and 7 both have towers in 20 .. 25 and 65 .. 70
    HillSketch z = Check.on(RING + "tower 5 60 70;tower 5 20 30;tower 7 65 99;tower 7 1 25;",
      "hump 3 tower;hump 2 tower;hump 1;", "hump 3 tower;hump 2 bare;hump 1;", "hump 3 bare;hump 2 bare;hump 1;",
      "hump 3 tower;hump 2 tower;hump 1;years 24 69;");
    int[][] spans = {{20, 70}, {26, 64}, {0, 59}, {24, 69}};
    for (int s = 0; s < 4; s++) {
      Check.due("22: since, by many towers, " + s, z.since(0, s, false), spans[s][0]);
      Check.due("22: until, by many towers, " + s, z.since(0, s, true), spans[s][1]);
    }
    Check.due("22: no sketch", y.since(0, 3, true), -1);
    Check.due("22: no land", y.since(1, 0, true), -1);
  }

  private static void pairs() {
    HillSketch x = Check.on(RING, HIGH_LOW, ODD + "turned;", ODD);
    int[][] pairs = {{0, 0}, {1, 3}, {2, 4}, {999, 4}};
    for (int[] p : pairs) Check.due("23: by " + p[0], x.pairs(0, 0, 1, p[0]), p[1]);
    Check.due("23: with itself", x.pairs(0, 0, 0, 0), 4);
    Check.due("23: with itself", x.pairs(0, 0, 0, 1), 8);
    Check.due("23: with none", x.pairs(0, 0, 2, 999), 0);
    for (int l : new int[] {-1, 1000, MIN, MAX}) Check.due("23: no " + l, x.pairs(0, 0, 1, l), -1);
    Check.due("23: no sketch", x.pairs(0, 3, 0, 1), -1);
    Check.due("23: no sketch", x.pairs(0, 0, 3, 1), -1);
    Check.due("23: no land", x.pairs(1, 0, 0, 1), -1);
  }

  private static void way() {
    // the one of 4 is the odd one; heights are 1 2 3 / 4 0 9 / 5 6 7
    HillSketch x = Check.on(RING, HIGH_LOW, ODD + "turned;", "hump 1;", ODD);
    Check.due("24: from 1 to 4", x.way(0, 0, 1, 2), 1);
    Check.due("24: and back", x.way(0, 1, 0, 2), 1);
    Check.due("24: it is too steep", x.way(0, 0, 1, 1), -1);
    Check.due("24: no step", x.way(0, 0, 0, 0), 0);
    Check.due("24: from 2 by 1 to 4", x.way(0, 2, 1, 2), 2);
    Check.due("24: from 7 to 4", x.way(0, 2, 1, 6), 1);
    Check.due("24: not yet", x.way(0, 2, 1, 5), 2);
    Check.due("24: c of 999", x.way(0, 2, 1, 999), 1);
    Check.due("24: to none", x.way(0, 0, 3, 999), -1);
    Check.due("24: from none", x.way(0, 3, 0, 999), -1);
    for (int c : new int[] {-1, 1000, MIN, MAX}) Check.due("24: no " + c, x.way(0, 0, 1, c), -1);
    Check.due("24: no sketch", x.way(0, 4, 0, 1), -1);
    Check.due("24: no sketch", x.way(0, 0, 4, 1), -1);
    Check.due("24: no land", x.way(1, 0, 0, 1), -1);
  }

  private static void isDrawn(HillSketch x, int sketch, boolean half, int... heights) {
    int[] told = {heights.length, 0, 0, half ? 1 : 0, 0, 0, 99};
    for (int what = 0; what < 7; what++) Check.due("25: sketch(" + sketch + ", " + what + ")", x.sketch(sketch, what), told[what]);
    for (int i = 0; i < heights.length; i++) {
      Check.due("25: height " + i, x.sketch(sketch, 10 + i), heights[i]);
      Check.due("25: marks " + i, x.sketch(sketch, 30 + i), 0);
    }
  }

  private static void draw() {
    HillSketch x = Check.on(RING, "hump 7 tower lake;give 8;true;half;turned;years 4 5;");
    Check.due("25: a further one", x.draw(0, 4, 0, 3, -1), 1);
    isDrawn(x, 1, false, 3, 2, 1);
    Check.due("25: in the place of one", x.draw(0, 4, 2, 2, 0), 0);
    isDrawn(x, 0, true, 1, 2);
    Check.due("25: by starts", x.draw(0, 4, 1, 3, -1), 2);
    isDrawn(x, 2, false, 2, 1, 3);
    Check.due("25: one", x.draw(0, 4, 1, 1, -1), 3);
    isDrawn(x, 3, true, 1);
    Check.due("25: there are 4", x.draw(0, 4, 0, 3, -1), -1);
    for (int at : new int[] {-2, 4, MIN, MAX}) Check.due("25: no sketch " + at, x.draw(0, 4, 0, 3, at), -1);
    for (int start : new int[] {-1, 3, MIN, MAX}) Check.due("25: no start " + start, x.draw(0, 4, start, 3, 0), -1);
    for (int n : new int[] {-1, 0, 4, MIN, MAX}) Check.due("25: not " + n, x.draw(0, 4, 0, n, 0), -1);
    for (int p : new int[] {-1, 9, MIN, MAX}) Check.due("25: no place " + p, x.draw(0, p, 0, 1, 0), -1);
    Check.due("25: no land", x.draw(1, 4, 0, 3, 0), -1);
    isDrawn(x, 0, true, 1, 2);
    Check.due("25: the rest stays", x.count(1), 4);
    HillSketch y = Check.on("size 9 9;");
    y.mend(0, 31, 5);
    y.mend(0, 7, 25);
    y.draw(0, 40, 0, 2, -1);
    isDrawn(y, 0, false, 1, 1);
    HillSketch z = many();
    Check.due("25: more than 12", z.hump(0, 40, -1) > 12, true);
    Check.due("25: 12", z.draw(0, 40, 0, 12, -1), 0);
    Check.due("25: 13", z.draw(0, 40, 0, 13, -1), -1);
  }

  /** A land with 16 humps seen from place 40: every second ray is high. */
  private static HillSketch many() {
    HillSketch x = Check.on("size 9 9;");
    int rays = x.ray(0, 40, -1);
    int[] tops = new int[rays];
    for (int k = 0; k < rays; k++) tops[k] = x.ray(0, 40, k);
    for (int k = 0; k < rays; k += 2) x.mend(0, tops[k], 100 + k);
    return x;
  }

  private static void rivals() {
    HillSketch x = Check.on(RING, "hump 1;");
    Check.due("26: two of 0", x.rivals(0, 0, 0, 2), 3);
    Check.due("26: three of 4", x.rivals(0, 4, 1, 3), 0);
    Check.due("26: one of 4", x.rivals(0, 4, 0, 1), 8);
    Check.due("26: two of 4", x.rivals(0, 4, 0, 2), 4);
    Check.due("26: nothing is drawn", x.count(1), 1);
    for (int n : new int[] {-1, 0, 4, 13, MIN, MAX}) Check.due("26: not " + n, x.rivals(0, 4, 0, n), -1);
    for (int start : new int[] {-1, 3, MIN, MAX}) Check.due("26: no start " + start, x.rivals(0, 4, start, 1), -1);
    for (int p : new int[] {-1, 9, MIN, MAX}) Check.due("26: no place " + p, x.rivals(0, p, 0, 1), -1);
    Check.due("26: no land", x.rivals(1, 4, 0, 1), -1);
    Check.due("26: 13 are too many", many().rivals(0, 40, 0, 13), -1);
  }

  private static void known() {
    HillSketch x = Check.on(RING);
    int[] known = {-1, -1, -1, -1, 3, -1, -1, -1, -1};
    for (int p = 0; p < 9; p++) Check.due("27: place " + p, x.known(0, p), known[p]);
    Check.due("27: without humps", Check.on("").known(0, 0), -1);
    // only 1 and 4 have three rays, and nothing stands out from 4
    HillSketch y = Check.on("size 3 2;haze 1;heights 0 0 5;");
    Check.due("27: one is enough", y.known(0, 1), 1);
    Check.due("27: one is enough", y.known(0, 4), -1);
    for (int p : new int[] {-1, 9, MIN, MAX}) Check.due("27: no place " + p, x.known(0, p), -1);
    Check.due("27: no land", x.known(1, 0), -1);
  }

  private static void lacks() {
    HillSketch x = Check.on(RING, ODD, "hump 3;hump 2;hump 1;", "hump 1;".repeat(12), HIGH_LOW);
    Check.due("30: 3 must be higher than 7 is from 4", x.lacks(0, 0, 4, 3), 7);
    Check.due("30: the land is as it was", x.height(0, 3), 4);
    Check.due("30: and is seen so", x.hump(0, 4, 2), 3);
    Check.due("30: with 0, by 2 in the stead of 5", x.lacks(0, 1, 4, 5), 0);
    Check.due("30: with none", x.lacks(0, 2, 4, 5), -1);
    HillSketch top = Check.on("size 3 3;heights 0 0 0 0 0 0 0 998 0;", "hump 2;hump 1;");
    Check.due("30: 999 at most, to the north", top.lacks(0, 0, 4, 1), 1);
    Check.sketch(top, "hump 1;hump 1;true;");
    Check.due("30: just as steep", top.lacks(0, 1, 4, 1), 998);
    top.mend(0, 7, 999);
    Check.due("30: with the greatest height", top.lacks(0, 1, 4, 1), 999);
    Check.due("30: p itself", x.lacks(0, 1, 4, 4), -1);
    for (int p : new int[] {-1, 9, MIN, MAX}) {
      Check.due("30: no place " + p, x.lacks(0, 0, p, 3), -1);
      Check.due("30: no place " + p, x.lacks(0, 0, 4, p), -1);
    }
    Check.due("30: no sketch", x.lacks(0, 4, 4, 3), -1);
    Check.due("30: no land", x.lacks(1, 0, 4, 3), -1);
    HillSketch y = Check.on("size 3 3;haze 1;heights 9 2 9 4 0 9 9 6 9;", "hump 1;", "hump 3;hump 2;");
    Check.due("30: outside of the haze it does not matter", y.lacks(0, 0, 4, 0), 0);
    Check.due("30: outside of the haze it does not matter", y.lacks(0, 1, 4, 0), -1);
    Check.due("30: in haze it does", y.lacks(0, 1, 4, 3), 7);
    HillSketch z = Check.on(RING + "tower 3 50 60;", "hump 3;hump 1;hump 2 tower;", "hump 3;hump 1;hump 2 tower;years 0 49;");
    Check.due("30: in some year", z.lacks(0, 0, 4, 3), 7);
    Check.due("30: in none", z.lacks(0, 1, 4, 3), -1);
  }

  private static void isStretch(HillSketch x, int sketch, int p, int start, int... due) {
    String call = "32: stretch(0, " + sketch + ", " + p + ", " + start + ")";
    Check.due(call + ", least", x.stretch(0, sketch, p, start, false, false), due[0]);
    Check.due(call + ", least, under", x.stretch(0, sketch, p, start, false, true), due[1]);
    Check.due(call + ", most", x.stretch(0, sketch, p, start, true, false), due[2]);
    Check.due(call + ", most, under", x.stretch(0, sketch, p, start, true, true), due[3]);
  }

  private static void stretch() {
    HillSketch x = Check.on(RING, ODD, ODD + "turned;", HIGH_LOW, "hump 99;half;");
    isStretch(x, 0, 4, 0, 1, 36, 1, 4);
    isStretch(x, 1, 4, 0, 1, 16, 1, 9);
    isStretch(x, 2, 0, 0, 25, 9, 405, 64);
    isStretch(x, 3, 4, 0, 121, 1, 121, 1);
    isStretch(Check.on("size 3 3;heights 0 0 0 5 5 10;", "hump 3;hump 2;"), 0, 4, 0, 9, 25, 9, 25);
    isStretch(Check.on("size 3 3;heights 0 7;", "hump 3;"), 0, 4, 0, 9, 49, 9, 49);
    isStretch(x, 2, 5, 0, -1, -1, -1, -1);
    isStretch(x, 2, 4, 0, -1, -1, -1, -1);
    isStretch(x, 0, 4, 3, -1, -1, -1, -1);
    isStretch(x, 0, 4, -1, -1, -1, -1, -1);
    isStretch(x, 0, 9, 0, -1, -1, -1, -1);
    isStretch(x, 4, 4, 0, -1, -1, -1, -1);
    Check.due("32: no land", x.stretch(1, 0, 4, 0, true, true), -1);
  }

  private static void wrong() {
    HillSketch x = Check.on(RING, ODD, ODD + "turned;", HIGH_LOW, "hump 9;hump 6;hump 5;true;");
    int[] odd = {1, 1, 3};
    for (int start = 0; start < 3; start++) Check.due("33: start " + start, x.wrong(0, 0, 4, start), odd[start]);
    Check.due("33: turned", x.wrong(0, 1, 4, 0), 0);
    Check.due("33: true", x.wrong(0, 3, 4, 0), 2);
    Check.due("33: n can't be", x.wrong(0, 2, 4, 0), -1);
    Check.due("33: no start", x.wrong(0, 0, 4, 3), -1);
    Check.due("33: no start", x.wrong(0, 0, 4, -1), -1);
    Check.due("33: no place", x.wrong(0, 0, 9, 0), -1);
    Check.due("33: no sketch", x.wrong(0, 4, 4, 0), -1);
    Check.due("33: no land", x.wrong(1, 0, 4, 0), -1);
    HillSketch y = Check.on(RING, "hump 3 tower;hump 2 tower;hump 1 lake;");
    Check.due("33: marks do not matter", y.wrong(0, 0, 4, 0), 0);
  }

  private static void nearest() {
    HillSketch x = Check.on(RING, ODD, HIGH_LOW, "hump 1;hump 1;hump 1;hump 1;half;", "hump 5;hump 9;true;");
    Check.due("34: the only one", x.nearest(0, 0, false), 4);
    Check.due("34: how much", x.nearest(0, 0, true), 1);
    Check.due("34: of several the least", x.nearest(0, 1, false), 0);
    Check.due("34: how much", x.nearest(0, 1, true), 0);
    Check.due("34: nowhere", x.nearest(0, 2, false), -1);
    Check.due("34: nowhere", x.nearest(0, 2, true), -1);
    Check.due("34: true", x.nearest(0, 3, true), 1);
    Check.due("34: true", x.nearest(0, 3, false), 0);
    Check.due("34: no sketch", x.nearest(0, 4, false), -1);
    Check.due("34: no land", x.nearest(1, 0, true), -1);
  }

  private static void isScrawl(int seed, int e, int... heights) {
    HillSketch x = Check.on(RING);
    String call = "35: seed " + seed + ", e " + e;
    Check.due(call, x.scrawl(0, 4, 0, 3, seed, e, -1), 0);
    int[] told = {3, 2 * e, 0, 0, 0, 0, 99};
    for (int what = 0; what < 7; what++) Check.due(call + ", " + what, x.sketch(0, what), told[what]);
    for (int i = 0; i < 3; i++) Check.due(call + ", height " + i, x.sketch(0, 10 + i), heights[i]);
  }

  private static void scrawl() {
    isScrawl(5, 0, 30, 20, 10);
    isScrawl(5, 3, 27, 19, 11);
    isScrawl(-7, 20, 12, 1, 1);
    HillSketch x = Check.on(RING, "hump 7 tower lake;give 8;true;half;turned;years 4 5;");
    Check.due("35: in the place of one", x.scrawl(0, 4, 1, 2, 9, 0, 0), 0);
    Check.due("35: half", x.sketch(0, 3), 1);
    Check.due("35: by order", x.sketch(0, 2), 0);
    Check.due("35: height", x.sketch(0, 10), 20);
    Check.due("35: marks", x.sketch(0, 30), 0);
    for (int e : new int[] {-1, 21, MIN, MAX}) Check.due("35: not e " + e, x.scrawl(0, 4, 0, 3, 1, e, 0), -1);
    for (int n : new int[] {-1, 0, 4, MIN, MAX}) Check.due("35: not " + n, x.scrawl(0, 4, 0, n, 1, 1, 0), -1);
    for (int at : new int[] {-2, 1, MIN, MAX}) Check.due("35: no sketch " + at, x.scrawl(0, 4, 0, 3, 1, 1, at), -1);
    for (int start : new int[] {-1, 3, MIN, MAX}) Check.due("35: no start " + start, x.scrawl(0, 4, start, 3, 1, 1, 0), -1);
    Check.due("35: no place", x.scrawl(0, 9, 0, 1, 1, 1, 0), -1);
    Check.due("35: no land", x.scrawl(1, 4, 0, 1, 1, 1, 0), -1);
    HillSketch z = many();
    for (int k = 0; k < 4; k++) Check.due("35: nine", z.scrawl(0, 40, 0, 9, k, 20, -1), k);
    Check.due("35: there are 4", z.scrawl(0, 40, 0, 9, 0, 20, -1), -1);
    Check.due("35: ten", z.scrawl(0, 40, 0, 10, 0, 20, 0), -1);
    boolean most = false;
    for (int seed = 0; seed < 20; seed++) {
      if (seed % 5 == 0) z = many();
      z.scrawl(0, 40, 0, 9, seed, 20, z.count(1) == 0 ? -1 : 0);
      for (int i = 0; i < 9; i++) {
        Check.due("35: 99 at most", z.sketch(0, 10 + i) <= 99 && z.sketch(0, 10 + i) >= 1, true);
        most |= z.sketch(0, 10 + i) == 99;
      }
    }
    Check.due("35: 99 at most, and that", most, true);
  }

  private static void found() {
    HillSketch x = Check.on(RING);
    Check.due("36: without error all", x.found(0, 4, 0, 3, 77, 0, 8, false), 8);
    Check.due("36: and alone", x.found(0, 4, 0, 3, 77, 0, 8, true), 8);
    Check.due("36: with rivals", x.found(0, 0, 0, 2, 77, 0, 8, false), 8);
    Check.due("36: with rivals none alone", x.found(0, 0, 0, 2, 77, 0, 8, true), 0);
    Check.due("36: one world", x.found(0, 4, 0, 3, MAX, 5, 1, false), 1);
    Check.due("36: nothing is drawn", x.count(1), 0);
    // each world is what scrawl() would have drawn
    for (int e = 0; e <= 20; e += 5) {
      HillSketch y = Check.on(RING, "hump 1;");
      int fitting = 0;
      int alone = 0;
      for (int k = 0; k < 8; k++) {
        y.scrawl(0, 4, 0, 3, MAX - 3 + k, e, 0);
        boolean fits = y.fits(0, 0, 4, -1) >= 0;
        fitting += fits ? 1 : 0;
        alone += fits && y.where(0, 0, -1, -1) == 1 ? 1 : 0;
      }
      Check.due("36: by scrawl, e " + e, y.found(0, 4, 0, 3, MAX - 3, e, 8, false), fitting);
      Check.due("36: by scrawl, alone, e " + e, y.found(0, 4, 0, 3, MAX - 3, e, 8, true), alone);
    }
    for (int w : new int[] {-1, 0, 9, MIN, MAX}) Check.due("36: not " + w + " worlds", x.found(0, 4, 0, 3, 1, 1, w, false), -1);
    for (int e : new int[] {-1, 21, MIN, MAX}) Check.due("36: not e " + e, x.found(0, 4, 0, 3, 1, e, 1, false), -1);
    for (int n : new int[] {-1, 0, 4, MIN, MAX}) Check.due("36: not " + n, x.found(0, 4, 0, n, 1, 1, 1, false), -1);
    for (int start : new int[] {-1, 3, MIN, MAX}) Check.due("36: no start " + start, x.found(0, 4, start, 1, 1, 1, 1, false), -1);
    Check.due("36: ten", many().found(0, 40, 0, 10, 1, 1, 1, false), -1);
    Check.due("36: no place", x.found(0, 9, 0, 1, 1, 1, 1, false), -1);
    Check.due("36: no land", x.found(1, 4, 0, 1, 1, 1, 1, false), -1);
  }
}
