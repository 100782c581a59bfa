/** Promises 10 to 14, 28, 29, 31 and 37 to 42: what is seen from a place, and ways over a land. */
public final class SightPromisesTest {
  private static final int MIN = Integer.MIN_VALUE;
  private static final int MAX = Integer.MAX_VALUE;
  private static final int[] NO_PLACES = {-1, 9, 144, MIN, MAX};
  private static final int[] NO_LANDS = {-1, 1, MIN, MAX};
  private static final String RING = "size 3 3;heights 1 2 3 4 0 9 5 6 7;";
  private static final String FLAT = "size 3 3;";

  public static void main(String[] args) {
    rise();
    seen();
    ray();
    hump();
    steeper();
    sees();
    most();
    shift();
    differs();
    hidden();
    guards();
    sneak();
    proud();
    peaks();
    Check.finish("SightPromisesTest");
  }

  private static void rise() {
    HillSketch x = Check.on("size 12 2;bend 50;eye 3;heights 10 20 30 0 0 0 0 0 0 0 0 100;");
    Check.due("10: 50 * 121 / 100 is cut to 60", x.rise(0, 0, 11), 27);
    Check.due("10: the other way", x.rise(0, 11, 0), -153);
    Check.due("10: 50 * 1 / 100 is cut to 0", x.rise(0, 0, 1), 7);
    Check.due("10: 50 * 2 / 100 is 1", x.rise(0, 0, 13), -14);
    Check.due("10: haze does not matter", Check.on("haze 1;heights 5 0 0 9;").rise(0, 0, 3), 4);
    Check.due("10: both are one", x.rise(0, 4, 4), -10000);
    for (int p : new int[] {-1, 24, MIN, MAX}) {
      Check.due("10: no place " + p, x.rise(0, p, 1), -10000);
      Check.due("10: no place " + p, x.rise(0, 1, p), -10000);
    }
    for (int land : NO_LANDS) Check.due("10: no land " + land, x.rise(land, 0, 1), -10000);
  }

  private static void seen() {
    HillSketch x = Check.on("size 5 2;haze 10;heights 0 1 2 4 9;");
    int[] seen = {-1, 1, 0, 1, 0, 1, 1, 1, 1, 0};
    // 2 is as steep as 1, which is nearer; 3 is steeper; 4 and 9 are in no haze; those of the other row are nearest ones
    for (int q = 0; q < 10; q++) Check.due("11: seen(0, 0, " + q + ")", x.seen(0, 0, q), seen[q]);
    HillSketch y = Check.on("size 4 2;eye 1;heights 5 5 5 3;");
    Check.due("11: less down by more is steeper", y.seen(0, 0, 2), 1);
    Check.due("11: -1 by 2 hides -3 by 3", y.seen(0, 0, 3), 0);
    Check.due("11: haze of just so much", Check.on("haze 4;heights 0 1 3;").seen(0, 0, 2), 1);
    Check.due("11: haze of one less", Check.on("haze 3;heights 0 1 3;").seen(0, 0, 2), 0);
    HillSketch z = Check.on(FLAT);
    for (int p : NO_PLACES) {
      Check.due("11: no place " + p, z.seen(0, p, 1), -1);
      Check.due("11: no place " + p, z.seen(0, 1, p), -1);
    }
    for (int land : NO_LANDS) Check.due("11: no land " + land, z.seen(land, 0, 1), -1);
  }

  private static void ray() {
    HillSketch x = Check.on("size 5 5;");
    int[] nearest = {7, 3, 8, 9, 13, 19, 18, 23, 17, 21, 16, 15, 11, 5, 6, 1};
    Check.due("12: how many", x.ray(0, 12, -1), 16);
    for (int k = 0; k < 16; k++) Check.due("12: of as steep ones the nearest, " + k, x.ray(0, 12, k), nearest[k]);
    HillSketch y = Check.on("size 5 5;eye 1;");
    int[] farthest = {2, 3, 4, 9, 14, 19, 24, 23, 22, 21, 20, 15, 10, 5, 0, 1};
    for (int k = 0; k < 16; k++) Check.due("12: the steepest, " + k, y.ray(0, 12, k), farthest[k]);
    HillSketch z = Check.on("size 5 5;eye 1;haze 4;");
    int[] hazy = {2, 8, 14, 18, 22, 16, 10, 6};
    Check.due("12: rays without one in haze are none", z.ray(0, 12, -1), 8);
    for (int k = 0; k < 8; k++) Check.due("12: in haze, " + k, z.ray(0, 12, k), hazy[k]);
    Check.due("12: the most", Check.on("size 12 12;").ray(0, 64, -1), 90);
    Check.due("12: in a corner", x.ray(0, 0, -1), 13);
    for (int k : new int[] {-2, 16, MIN, MAX}) Check.due("12: no ray " + k, x.ray(0, 12, k), -1);
    for (int p : new int[] {-1, 25, MIN, MAX}) Check.due("12: no place " + p, x.ray(0, p, -1), -1);
    for (int land : NO_LANDS) Check.due("12: no land " + land, x.ray(land, 0, -1), -1);
  }

  private static void hump() {
    HillSketch x = Check.on(RING);
    int[] tops = {5, 7, 3};
    Check.due("13: how many", x.hump(0, 4, -1), 3);
    for (int k = 0; k < 3; k++) Check.due("13: hump " + k, x.hump(0, 4, k), tops[k]);
    Check.due("13: a flat land has none", Check.on(FLAT).hump(0, 4, -1), 0);
    // of the rest, corners are less steeply down than sides
    humpsAre("13: of two alike it is the first", Check.on("size 3 3;heights 0 5 5 0 5;"), 1, 8, 6);
    humpsAre("13: the last ray is ahead of the first", Check.on("size 3 3;heights 5 5 0 0 5;"), 8, 6, 0);
    humpsAre("13: the first ray is behind the last", Check.on("size 3 3;heights 0 9 0 0 5;"), 1, 8, 6);
    Check.due("13: two rays have none", Check.on("size 2 2;haze 1;heights 0 1 2 3;").hump(0, 0, -1), 0);
    Check.due("13: three rays have some", Check.on("size 2 2;heights 0 1 2 3;").hump(0, 0, -1), 1);
    for (int k : new int[] {-2, 3, MIN, MAX}) Check.due("13: no hump " + k, x.hump(0, 4, k), -1);
    for (int p : NO_PLACES) Check.due("13: no place " + p, x.hump(0, p, -1), -1);
    for (int land : NO_LANDS) Check.due("13: no land " + land, x.hump(land, 0, -1), -1);
  }

  private static void humpsAre(String what, HillSketch x, int... tops) {
    Check.due(what, x.hump(0, 4, -1), tops.length);
    for (int k = 0; k < tops.length; k++) Check.due(what + ", " + k, x.hump(0, 4, k), tops[k]);
  }

  private static void steeper() {
    HillSketch x = Check.on("size 9 9;");
    x.mend(0, 31, 5);
    x.mend(0, 7, 25);
    Check.due("14: humps", x.hump(0, 40, -1), 2);
    Check.due("14: 5 by 1 is 25 by 5", x.steeper(0, 40, 0, 1), 0);
    x.mend(0, 7, 26);
    Check.due("14: 5 by 1 is less than 26 by 5", x.steeper(0, 40, 0, 1), -1);
    Check.due("14: and the other way", x.steeper(0, 40, 1, 0), 1);
    Check.due("14: as steep as itself", x.steeper(0, 40, 1, 1), 0);
    HillSketch y = Check.on("size 3 3;heights 0 7 0 0 0 0 0 0 10;");
    Check.due("14: 7 by 1 is less than 10 by the root of 2", y.steeper(0, 4, 0, 1), -1);
    HillSketch z = Check.on("size 3 3;heights 0 13 0 0 20 0 0 0 10;");
    Check.due("14: humps", z.hump(0, 4, 0), 1);
    Check.due("14: humps", z.hump(0, 4, 1), 8);
    Check.due("14: -7 by 1 is more than -10 by the root of 2", z.steeper(0, 4, 0, 1), 1);
    for (int k : new int[] {-1, 2, MIN, MAX}) {
      Check.due("14: no hump " + k, y.steeper(0, 4, 0, k), -2);
      Check.due("14: no hump " + k, y.steeper(0, 4, k, 0), -2);
    }
    for (int p : NO_PLACES) Check.due("14: no place " + p, y.steeper(0, p, 0, 0), -2);
    for (int land : NO_LANDS) Check.due("14: no land " + land, y.steeper(land, 4, 0, 0), -2);
  }

  private static void sees() {
    HillSketch x = Check.on(FLAT);
    int[] flat = {5, 7, 5, 7, 8, 7, 5, 7, 5};
    for (int p = 0; p < 9; p++) Check.due("28: flat, " + p, x.sees(0, p), flat[p]);
    Check.due("28: from above all", Check.on("size 3 3;eye 1;").sees(0, 0), 8);
    Check.due("28: in haze", Check.on("size 3 3;eye 1;haze 2;").sees(0, 0), 3);
    for (int p : NO_PLACES) Check.due("28: no place " + p, x.sees(0, p), -1);
    for (int land : NO_LANDS) Check.due("28: no land " + land, x.sees(land, 0), -1);
  }

  private static void most() {
    Check.due("29: the middle", Check.on(FLAT).most(0), 4);
    Check.due("29: of several the least", Check.on("size 3 3;eye 1;").most(0), 0);
    for (int land : NO_LANDS) Check.due("29: no land " + land, Check.on(FLAT).most(land), -1);
  }

  private static void shift() {
    HillSketch x = Check.on(FLAT);
    Check.due("31: a hill in the middle is a hump for all", x.shift(0, 4, 5), 9);
    Check.due("31: as it is", x.shift(0, 4, 0), 0);
    Check.due("31: it was only asked", x.height(0, 4), 0);
    Check.due("31: it was only asked", x.hump(0, 0, -1), 0);
    HillSketch y = Check.on("size 3 3;haze 1;");
    Check.due("31: in haze", y.shift(0, 4, 999), 4);
    Check.due("31: too high", x.shift(0, 4, 1000), -1);
    Check.due("31: too low", x.shift(0, 4, -1), -1);
    for (int p : NO_PLACES) Check.due("31: no place " + p, x.shift(0, p, 1), -1);
    for (int land : NO_LANDS) Check.due("31: no land " + land, x.shift(land, 0, 1), -1);
  }

  private static void differs() {
    HillSketch x = Check.on(RING);
    Check.land(x, RING);
    Check.due("37: alike", x.differs(0, 1, 4), 0);
    x.mend(1, 4, 100);
    // from on high the corners are less steeply down than the sides
    Check.due("37: sides are none of the corners", x.differs(0, 1, 4), 3);
    Check.due("37: the other way", x.differs(1, 0, 4), 4);
    Check.due("37: one land", x.differs(0, 0, 4), 0);
    Check.feed(x, "size 2 2;heights 0 1 2 3;");
    x.text(0, 1);
    Check.due("37: a place of both", x.differs(1, 0, 0), 0);
    Check.due("37: a place of both", x.differs(0, 1, 0), 1);
    Check.due("37: a place of one", x.differs(0, 1, 4), -1);
    Check.due("37: a place of one", x.differs(1, 0, 4), -1);
    for (int p : NO_PLACES) Check.due("37: no place " + p, x.differs(0, 0, p), -1);
    for (int land : new int[] {-1, 2, MIN, MAX}) {
      Check.due("37: no land " + land, x.differs(land, 0, 0), -1);
      Check.due("37: no land " + land, x.differs(0, land, 0), -1);
    }
  }

  private static void hidden() {
    // each place has a neighbour, of which nothing can hide it
    Check.due("38: none", Check.on("size 3 3;heights 0 0 0 0 999;").hidden(0), 0);
    Check.due("38: none in the thickest haze", Check.on("haze 1;").hidden(0), 0);
    for (int land : NO_LANDS) Check.due("38: no land " + land, Check.on(FLAT).hidden(land), -1);
  }

  private static void guards() {
    HillSketch x = Check.on(FLAT);
    Check.due("39: one", x.guards(0, -1), 1);
    Check.due("39: the middle", x.guards(0, 0), 4);
    Check.due("39: no more", x.guards(0, 1), -1);
    HillSketch y = Check.on("size 3 3;haze 1;");
    int[] least = {0, 2, 7};
    Check.due("39: three", y.guards(0, -1), 3);
    for (int k = 0; k < 3; k++) Check.due("39: the least row, " + k, y.guards(0, k), least[k]);
    Check.due("39: no more", y.guards(0, 3), -1);
    HillSketch z = Check.on("size 4 3;haze 1;");
    Check.due("39: three are not enough", z.guards(0, -1), -1);
    Check.due("39: three are not enough", z.guards(0, 0), -1);
    Check.due("39: nor of the largest land", Check.on("size 12 12;haze 1;").guards(0, -1), -1);
    HillSketch two = Check.on("size 2 2;haze 1;");
    Check.due("39: two", two.guards(0, -1), 2);
    Check.due("39: two", two.guards(0, 1), 1);
    y.mend(0, 4, 5);
    Check.due("39: haze is as it was", y.guards(0, 2), 7);
    x.mend(0, 4, 5);
    Check.due("39: anew, when a height is mended", x.guards(0, 0), 4);
    x.mend(0, 1, 9);
    x.mend(0, 4, 0);
    Check.due("39: anew, when a height is mended", x.guards(0, 0), 1);
    for (int k : new int[] {-2, MIN, MAX}) Check.due("39: no guard " + k, y.guards(0, k), -1);
    for (int land : NO_LANDS) Check.due("39: no land " + land, x.guards(land, -1), -1);
  }

  private static void sneak() {
    HillSketch x = Check.on("size 3 3;haze 1;");
    Check.due("40: past a corner", x.sneak(0, 2, 6, 0), 4);
    Check.due("40: corners are cut off", x.sneak(0, 0, 2, 4), -1);
    Check.due("40: no step", x.sneak(0, 0, 0, 4), 0);
    Check.due("40: a is seen", x.sneak(0, 1, 2, 0), -1);
    Check.due("40: a is seen, no step", x.sneak(0, 1, 1, 0), -1);
    Check.due("40: b is seen", x.sneak(0, 2, 3, 0), -1);
    Check.due("40: a is p", x.sneak(0, 0, 2, 0), -1);
    Check.due("40: b is p", x.sneak(0, 2, 0, 0), -1);
    Check.due("40: the end of a row is far from the next one", Check.on("size 4 3;haze 1;").sneak(0, 3, 4, 11), 4);
    Check.due("40: heights do not matter", Check.on("size 3 3;haze 1;heights 0 0 0 0 999;").sneak(0, 2, 6, 0), 4);
    for (int p : NO_PLACES) {
      Check.due("40: no place " + p, x.sneak(0, p, 8, 0), -1);
      Check.due("40: no place " + p, x.sneak(0, 8, p, 0), -1);
      Check.due("40: no place " + p, x.sneak(0, 8, 8, p), -1);
    }
    for (int land : NO_LANDS) Check.due("40: no land " + land, x.sneak(land, 8, 8, 0), -1);
  }

  private static void proud() {
    HillSketch x = Check.on("size 5 2;heights 5 3 8 2 6;");
    int[] proud = {2, 0, 8, 0, 4, 0, 0, 0, 0, 0};
    for (int p = 0; p < 10; p++) Check.due("41: proud " + p, x.proud(0, p), proud[p]);
    HillSketch y = Check.on("size 5 2;heights 5 3 5 2 5 5 4;");
    Check.due("41: as high ones are not higher", y.proud(0, 0), 5);
    Check.due("41: as high ones are not higher", y.proud(0, 4), 5);
    HillSketch z = Check.on("size 5 2;heights 5 1 9 0 0 0 4 4;");
    Check.due("41: one goes where it is highest", z.proud(0, 0), 4);
    Check.due("41: the end of a row is far from the next one", Check.on("size 3 3;heights 0 0 5 9 0 0 0 0 0;").proud(0, 2), 5);
    z.mend(0, 5, 3);
    Check.due("41: one goes where it is highest", z.proud(0, 0), 2);
    for (int p : new int[] {-1, 10, MIN, MAX}) Check.due("41: no place " + p, x.proud(0, p), -1);
    for (int land : NO_LANDS) Check.due("41: no land " + land, x.proud(land, 0), -1);
  }

  private static void peaks() {
    Check.due("42: three", Check.on("size 5 2;heights 5 3 8 2 6;").peaks(0), 3);
    Check.due("42: none of a flat land", Check.on(FLAT).peaks(0), 0);
    Check.due("42: none of two alike", Check.on("size 2 2;heights 5 5;").peaks(0), 0);
    Check.due("42: the end of a row is no neighbour of the next one", Check.on("size 2 2;heights 0 5 5 0;").peaks(0), 2);
    Check.due("42: corners are no neighbours", Check.on("size 2 2;heights 5 0 0 5;").peaks(0), 2);
    for (int land : NO_LANDS) Check.due("42: no land " + land, Check.on(FLAT).peaks(land), -1);
  }
}
