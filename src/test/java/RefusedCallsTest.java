/**
 * "There is none such (of any)", "or another number": each parameter of each method, one too small, one too large, the least
 * and the greatest int, alone and two at once, is refused with the answer that is due, and changes nothing.
 */
public final class RefusedCallsTest {
  private static final int MIN = Integer.MIN_VALUE;
  private static final int MAX = Integer.MAX_VALUE;
  private static final int FALSE = 0;

  private interface Call {
    long on(HillSketch x, int[] v);
  }

  /** What is told of a land with 3 HUMPS at PLACE 4, 8 RAYS there, and 2 THINGS; the second one has 4 PLACES. */
  private static final String RING = "size 3 3;heights 1 2 3 4 0 9 5 6 7;lake 1;tower 5 10 20;";
  private static final String SMALL = "size 2 2;heights 0 1 2 3;eye 3;";
  private static final String[] SKETCHES = {"hump 1;hump 2;hump 3;", "hump 9;hump 5;half;years 3 4;", "hump 4 tower;half;true;give 5;",
    "hump 1;hump 1;hump 1;hump 1 lake;hump 1;hump 1;hump 1;hump 1;hump 1;turned;"};

  public static void main(String[] args) {
    told();
    seen();
    fitting();
    drawing();
    walking();
    withoutLands();
    withoutSketches();
    asking();
    Check.finish("RefusedCallsTest");
  }

  /** All LANDS and SKETCHES that there may be, a FAULT, images 0 and 1, and a tape that can be read. */
  private static HillSketch ready() {
    HillSketch x = Check.on(RING);
    Check.land(x, SMALL);
    for (String s : SKETCHES) Check.sketch(x, s);
    x.image(0);
    x.mend(0, 0, 77);
    x.image(1);
    x.mend(0, 0, 1);
    Check.feed(x, "   eye 10;");
    x.text(1, 0);
    Check.feed(x, "size 4 5;eye 6;");
    return x;
  }

  /** Holds all that is told against what it was; at last the tape is taken, and the images are looked at. */
  private static void isUnchanged(String call, HillSketch x) {
    int[] ring = {3, 3, 0, 0, 999, 2};
    int[] small = {2, 2, 3, 0, 999, 0};
    int[] heights = {1, 2, 3, 4, 0, 9, 5, 6, 7};
    Check.due("LANDS after " + call, x.count(0), 2);
    Check.due("SKETCHES after " + call, x.count(1), 4);
    for (int what = 0; what < 6; what++) {
      Check.due("land(0, " + what + ") after " + call, x.land(0, what), ring[what]);
      Check.due("land(1, " + what + ") after " + call, x.land(1, what), small[what]);
    }
    for (int p = 0; p < 9; p++) Check.due("height(0, " + p + ") after " + call, x.height(0, p), heights[p]);
    for (int p = 0; p < 4; p++) Check.due("height(1, " + p + ") after " + call, x.height(1, p), p);
    int[] things = {1, 5, 0, 1, 0, 10, 99, 20};
    for (int i = 0; i < 8; i++) Check.due("THINGS after " + call, x.land(0, 10 + 20 * (i / 2) + i % 2), things[i]);
    int[][] sketches = {{3, 0, 0, 0, 0, 0, 99}, {2, 0, 0, 1, 0, 3, 4}, {1, 5, 1, 1, 0, 0, 99}, {9, 0, 0, 0, 1, 0, 99}};
    int[] first = {1, 9, 4, 1};
    for (int s = 0; s < 4; s++) {
      for (int what = 0; what < 7; what++) Check.due("sketch(" + s + ", " + what + ") after " + call, x.sketch(s, what), sketches[s][what]);
      Check.due("HUMP 0 of SKETCH " + s + " after " + call, x.sketch(s, 10), first[s]);
      Check.due("marks of SKETCH " + s + " after " + call, x.sketch(s, s == 3 ? 33 : 30), s == 3 ? 1 : s == 2 ? 2 : 0);
    }
    Check.due("HUMPS seen after " + call, x.hump(0, 4, -1), 3);
    Check.due("FAULT after " + call, x.fault(0), 1);
    Check.due("its place after " + call, x.fault(1), 3);
    Check.due("the tape after " + call, x.end(16), -1);
    Check.due("the tape after " + call, x.end(15), 15);
    Check.due("the tape after " + call, x.text(0, 1), 1);
    Check.due("the tape after " + call, x.land(1, 2), 6);
    Check.due("no image 2 after " + call, x.again(2), false);
    Check.due("image 0 after " + call, x.again(0) && x.height(0, 0) == 1 && x.height(1, 3) == 3, true);
    Check.due("image 1 after " + call, x.again(1) && x.height(0, 0) == 77 && x.height(1, 3) == 3, true);
  }

  private static String name(String method, int[] v) {
    StringBuilder s = new StringBuilder(method).append('(');
    for (int i = 0; i < v.length; i++) s.append(i > 0 ? ", " : "").append(v[i]);
    return s.append(')').toString();
  }

  /** Numbers that are not from lo to hi, those next to them first. */
  private static int[] outside(int lo, int hi) {
    int[] odd = {lo - 1, hi + 1, MIN, MAX, MIN + 1, MAX - 1, -1, -2, -1000, 144, 1000, 65536, 1 << 30};
    int n = 0;
    for (int v : odd) if (v < lo || v > hi) odd[n++] = v;
    return java.util.Arrays.copyOf(odd, n);
  }

  /** Each parameter with its least and greatest number, behind one set of numbers that are all good. */
  private static void refuses(String method, long due, int[] good, int[][] range, Call call) {
    for (int i = 0; i < good.length; i++) {
      for (int v : outside(range[i][0], range[i][1])) {
        int[] values = good.clone();
        values[i] = v;
        HillSketch x = ready();
        Check.due(name(method, values), call.on(x, values), due);
        isUnchanged(name(method, values), x);
      }
    }
    HillSketch x = ready();
    int calls = 0;
    for (int i = 0; i < good.length; i++) {
      for (int k = i + 1; k < good.length; k++) {
        for (int v : outside(range[i][0], range[i][1])) {
          for (int w : outside(range[k][0], range[k][1])) {
            int[] values = good.clone();
            values[i] = v;
            values[k] = w;
            Check.due(name(method, values), call.on(x, values), due);
            if (++calls % 300 == 0) {
              isUnchanged(name(method, values), x);
              x = ready();
            }
          }
        }
      }
    }
    isUnchanged(method + " many times", x);
  }

  private static final int[] LANDS = {0, 1};
  private static final int[] ONE = {0, 0};
  private static final int[] PLACES = {0, 8};
  private static final int[] SOME = {0, 3};
  private static final int[] YEARS = {-1, 99};

  private static int[][] ranges(int[]... range) { return range; }
  private static int[] row(int... v) { return v; }

  private static void told() {
    refuses("end", -1, row(15), ranges(row(0, 15)), (x, v) -> x.end(v[0]));
    refuses("fault", -1, row(0), ranges(row(0, 1)), (x, v) -> x.fault(v[0]));
    for (int[] what : new int[][] {{0, 5}, {10, 11}, {30, 31}, {50, 51}, {70, 71}}) {
      refuses("land", -1, row(0, what[0]), ranges(LANDS, what), (x, v) -> v[0] == 0 && isThing(v[1]) ? -1 : x.land(v[0], v[1]));
    }
    refuses("height", -1, row(0, 0), ranges(LANDS, PLACES), (x, v) -> x.height(v[0], v[1]));
    refuses("height", -1, row(1, 0), ranges(LANDS, row(0, 3)), (x, v) -> v[0] == 0 ? -1 : x.height(v[0], v[1]));
    refuses("mend", FALSE, row(0, 0, 5), ranges(LANDS, PLACES, row(0, 999)), (x, v) -> x.mend(v[0], v[1], v[2]) ? 1 : 0);
    for (int[] what : new int[][] {{0, 6}, {10, 12}, {30, 32}}) {
      refuses("sketch", -1, row(0, what[0]), ranges(SOME, what), (x, v) -> v[0] == 0 && isHump(v[1]) ? -1 : x.sketch(v[0], v[1]));
    }
    refuses("count", -2, row(0), ranges(row(0, 1)), (x, v) -> x.count(v[0]));
    refuses("image", FALSE, row(0), ranges(row(0, 2)), (x, v) -> x.image(v[0]) ? 1 : 0);
    refuses("again", FALSE, row(0), ranges(row(0, 1)), (x, v) -> x.again(v[0]) ? 1 : 0);
  }

  /** Numbers of other rows of what is told are no wrong ones. */
  private static boolean isThing(int what) { return what >= 0 && what < 6 || what >= 10 && what < 90 && what % 20 >= 10 && what % 20 < 12; }
  private static boolean isHump(int what) { return what >= 0 && what < 7 || what >= 10 && what < 13 || what >= 30 && what < 33; }

  private static void seen() {
    refuses("rise", -10000, row(0, 4, 5), ranges(LANDS, PLACES, PLACES), (x, v) -> x.rise(v[0], v[1], v[2]));
    refuses("seen", -1, row(0, 4, 5), ranges(LANDS, PLACES, PLACES), (x, v) -> x.seen(v[0], v[1], v[2]));
    for (int p = 0; p < 9; p++) {
      int place = p;
      refuses("rise to itself", -10000, row(0), ranges(LANDS), (x, v) -> x.rise(v[0], place, place));
      HillSketch x = ready();
      Check.due("rise(0, " + p + ", " + p + ")", x.rise(0, p, p), -10000);
      Check.due("seen(0, " + p + ", " + p + ")", x.seen(0, p, p), -1);
      isUnchanged("rise and seen of one PLACE", x);
    }
    refuses("ray", -1, row(0, 4, 0), ranges(LANDS, PLACES, row(-1, 7)), (x, v) -> x.ray(v[0], v[1], v[2]));
    refuses("hump", -1, row(0, 4, 0), ranges(LANDS, PLACES, row(-1, 2)), (x, v) -> x.hump(v[0], v[1], v[2]));
    refuses("steeper", -2, row(0, 4, 0, 0), ranges(LANDS, PLACES, row(0, 2), row(0, 2)), (x, v) -> x.steeper(v[0], v[1], v[2], v[3]));
    refuses("sees", -1, row(0, 4), ranges(LANDS, PLACES), (x, v) -> x.sees(v[0], v[1]));
    refuses("most", -1, row(0), ranges(LANDS), (x, v) -> x.most(v[0]));
    refuses("shift", -1, row(0, 4, 5), ranges(LANDS, PLACES, row(0, 999)), (x, v) -> x.shift(v[0], v[1], v[2]));
    refuses("differs", -1, row(0, 0, 4), ranges(LANDS, LANDS, PLACES), (x, v) -> x.differs(v[0], v[1], v[2]));
    refuses("differs", -1, row(0, 1, 3), ranges(LANDS, LANDS, row(0, 3)), (x, v) -> x.differs(v[0], v[1], v[2]));
    refuses("differs", -1, row(1, 0, 3), ranges(LANDS, LANDS, row(0, 3)), (x, v) -> x.differs(v[0], v[1], v[2]));
    refuses("hidden", -1, row(0), ranges(LANDS), (x, v) -> x.hidden(v[0]));
    refuses("guards", -1, row(0, 0), ranges(LANDS, row(-1, 0)), (x, v) -> x.guards(v[0], v[1]));
  }

  private static void fitting() {
    int[] starts = {0, 2};
    int[] humps = {0, 2};
    refuses("first", -1, row(0, 0, 4, 0, -1), ranges(LANDS, SOME, PLACES, starts, YEARS), (x, v) -> x.first(v[0], v[1], v[2], v[3], v[4]));
    // also of a SKETCH that can't be there
    refuses("first", -1, row(0, 3, 4, 0, 5), ranges(LANDS, SOME, PLACES, starts, YEARS), (x, v) -> x.first(v[0], v[1], v[2], v[3], v[4]));
    refuses("fits", -1, row(0, 1, 0, -1), ranges(LANDS, SOME, PLACES, YEARS), (x, v) -> x.fits(v[0], v[1], v[2], v[3]));
    refuses("where", -1, row(0, 1, -1, 0), ranges(LANDS, SOME, YEARS, row(-1, 5)), (x, v) -> x.where(v[0], v[1], v[2], v[3]));
    refuses("hills", -1, row(0, 0, 0, -1), ranges(LANDS, SOME, humps, row(-1, 8)), (x, v) -> x.hills(v[0], v[1], v[2], v[3]));
    refuses("sure", FALSE, row(0, 0, 0), ranges(LANDS, SOME, humps), (x, v) -> x.sure(v[0], v[1], v[2]) ? 1 : 0);
    refuses("bars", -1, row(0, 0, 0), ranges(LANDS, SOME, humps), (x, v) -> x.bars(v[0], v[1], v[2]));
    refuses("doubt", -1, row(0, 0), ranges(LANDS, SOME), (x, v) -> x.doubt(v[0], v[1]));
    for (int until = 0; until < 2; until++) {
      boolean yes = until == 1;
      refuses("since", -1, row(0, 1), ranges(LANDS, SOME), (x, v) -> x.since(v[0], v[1], yes));
      refuses("nearest", -1, row(0, 0), ranges(LANDS, SOME), (x, v) -> x.nearest(v[0], v[1], yes));
      for (int under = 0; under < 2; under++) {
        boolean below = under == 1;
        refuses("stretch", -1, row(0, 0, 4, 0), ranges(LANDS, SOME, PLACES, starts), (x, v) -> x.stretch(v[0], v[1], v[2], v[3], yes, below));
      }
    }
    refuses("wrong", -1, row(0, 0, 4, 0), ranges(LANDS, SOME, PLACES, starts), (x, v) -> x.wrong(v[0], v[1], v[2], v[3]));
    refuses("lacks", -1, row(0, 0, 4, 3), ranges(LANDS, SOME, PLACES, PLACES), (x, v) -> x.lacks(v[0], v[1], v[2], v[3]));
    for (int p = 0; p < 9; p++) {
      int place = p;
      refuses("lacks of itself", -1, row(0, 0), ranges(LANDS, SOME), (x, v) -> x.lacks(v[0], v[1], place, place));
      HillSketch x = ready();
      for (int s = 0; s < 4; s++) Check.due("lacks(0, " + s + ", " + p + ", " + p + ")", x.lacks(0, s, p, p), -1);
      isUnchanged("lacks of one PLACE", x);
    }
  }

  private static void drawing() {
    int[] starts = {0, 2};
    int[] ns = {1, 3};
    refuses("draw", -1, row(0, 4, 0, 3, 0), ranges(LANDS, PLACES, starts, ns, SOME), (x, v) -> x.draw(v[0], v[1], v[2], v[3], v[4]));
    refuses("draw, a further one", -1, row(0, 4, 0, 3), ranges(LANDS, PLACES, starts, ns), (x, v) -> x.draw(v[0], v[1], v[2], v[3], -1));
    refuses("rivals", -1, row(0, 4, 0, 3), ranges(LANDS, PLACES, starts, ns), (x, v) -> x.rivals(v[0], v[1], v[2], v[3]));
    refuses("known", -1, row(0, 4), ranges(LANDS, PLACES), (x, v) -> x.known(v[0], v[1]));
    refuses("scrawl", -1, row(0, 4, 0, 3, 5, 1, 0), ranges(LANDS, PLACES, starts, ns, row(MIN, MAX), row(0, 20), SOME),
      (x, v) -> x.scrawl(v[0], v[1], v[2], v[3], v[4], v[5], v[6]));
    for (int alone = 0; alone < 2; alone++) {
      boolean yes = alone == 1;
      refuses("found", -1, row(0, 4, 0, 3, 5, 1, 8), ranges(LANDS, PLACES, starts, ns, row(MIN, MAX), row(0, 20), row(1, 8)),
        (x, v) -> x.found(v[0], v[1], v[2], v[3], v[4], v[5], v[6], yes));
    }
    HillSketch x = ready();
    Check.due("draw, there are 4", x.draw(0, 4, 0, 3, -1), -1);
    Check.due("scrawl, there are 4", x.scrawl(0, 4, 0, 3, 1, 1, -1), -1);
    isUnchanged("draw and scrawl of a fifth one", x);
  }

  private static void walking() {
    refuses("pairs", -1, row(0, 1, 1, 5), ranges(LANDS, SOME, SOME, row(0, 999)), (x, v) -> x.pairs(v[0], v[1], v[2], v[3]));
    refuses("way", -1, row(0, 1, 1, 5), ranges(LANDS, SOME, SOME, row(0, 999)), (x, v) -> x.way(v[0], v[1], v[2], v[3]));
    refuses("sneak", -1, row(0, 2, 2, 6), ranges(LANDS, PLACES, PLACES, PLACES), (x, v) -> x.sneak(v[0], v[1], v[2], v[3]));
    refuses("proud", -1, row(0, 4), ranges(LANDS, PLACES), (x, v) -> x.proud(v[0], v[1]));
    refuses("peaks", -1, row(0), ranges(LANDS), (x, v) -> x.peaks(v[0]));
  }

  /** Of a new object, and of one with SKETCHES alone, no LAND is such. */
  private static void withoutLands() {
    for (int sketches = 0; sketches < 2; sketches++) {
      for (int land : new int[] {0, 1, -1}) {
        HillSketch x = new HillSketch();
        if (sketches == 1) Check.sketch(x, "hump 1;half;");
        String of = " of LAND " + land + ", without";
        Check.due("land" + of, x.land(land, 0), -1);
        Check.due("height" + of, x.height(land, 0), -1);
        Check.due("mend" + of, x.mend(land, 0, 0), false);
        Check.due("rise" + of, x.rise(land, 0, 1), -10000);
        Check.due("seen" + of, x.seen(land, 0, 1), -1);
        Check.due("ray" + of, x.ray(land, 0, -1), -1);
        Check.due("hump" + of, x.hump(land, 0, -1), -1);
        Check.due("steeper" + of, x.steeper(land, 0, 0, 0), -2);
        Check.due("sees" + of, x.sees(land, 0), -1);
        Check.due("most" + of, x.most(land), -1);
        Check.due("shift" + of, x.shift(land, 0, 0), -1);
        Check.due("differs" + of, x.differs(land, land, 0), -1);
        Check.due("hidden" + of, x.hidden(land), -1);
        Check.due("guards" + of, x.guards(land, -1), -1);
        Check.due("sneak" + of, x.sneak(land, 0, 0, 1), -1);
        Check.due("proud" + of, x.proud(land, 0), -1);
        Check.due("peaks" + of, x.peaks(land), -1);
        Check.due("draw" + of, x.draw(land, 0, 0, 1, -1), -1);
        Check.due("scrawl" + of, x.scrawl(land, 0, 0, 1, 1, 1, -1), -1);
        Check.due("rivals" + of, x.rivals(land, 0, 0, 1), -1);
        Check.due("known" + of, x.known(land, 0), -1);
        Check.due("found" + of, x.found(land, 0, 0, 1, 1, 1, 1, false), -1);
        fittingOfNone(x, land, 0, of);
        Check.due("SKETCHES" + of, x.count(1), sketches);
        Check.due("LANDS" + of, x.count(0), 0);
      }
    }
  }

  /** Of an object with LANDS alone no SKETCH is such. */
  private static void withoutSketches() {
    HillSketch x = Check.on(RING);
    Check.land(x, SMALL);
    for (int land = 0; land < 2; land++) {
      for (int sketch : new int[] {0, 1, 3, -1}) {
        String of = " of SKETCH " + sketch + ", without";
        Check.due("sketch" + of, x.sketch(sketch, 0), -1);
        fittingOfNone(x, land, sketch, of);
      }
    }
    Check.due("draw in the place of none", x.draw(0, 4, 0, 3, 0), -1);
    Check.due("scrawl in the place of none", x.scrawl(0, 4, 0, 3, 1, 1, 0), -1);
    Check.due("none has been drawn", x.count(1), 0);
  }

  private static void fittingOfNone(HillSketch x, int land, int sketch, String of) {
    Check.due("first" + of, x.first(land, sketch, 0, 0, -1), -1);
    Check.due("fits" + of, x.fits(land, sketch, 0, -1), -1);
    Check.due("where" + of, x.where(land, sketch, -1, -1), -1);
    Check.due("hills" + of, x.hills(land, sketch, 0, -1), -1);
    Check.due("sure" + of, x.sure(land, sketch, 0), false);
    Check.due("bars" + of, x.bars(land, sketch, 0), -1);
    Check.due("doubt" + of, x.doubt(land, sketch), -1);
    Check.due("since" + of, x.since(land, sketch, false), -1);
    Check.due("until" + of, x.since(land, sketch, true), -1);
    Check.due("pairs" + of, x.pairs(land, sketch, sketch, 0), -1);
    Check.due("way" + of, x.way(land, sketch, sketch, 0), -1);
    Check.due("lacks" + of, x.lacks(land, sketch, 0, 1), -1);
    Check.due("stretch" + of, x.stretch(land, sketch, 0, 0, false, false), -1);
    Check.due("wrong" + of, x.wrong(land, sketch, 0, 0), -1);
    Check.due("nearest" + of, x.nearest(land, sketch, false), -1);
    Check.due("nearest" + of, x.nearest(land, sketch, true), -1);
  }

  /** What only asks changes nothing either, however much it looks at. */
  private static void asking() {
    for (int round = 0; round < 2; round++) {
      HillSketch x = ready();
      for (int s = 0; s < 4; s++) {
        for (int i = 0; i < 3; i++) {
          x.hills(round, s, i, -1);
          x.sure(round, s, i);
          x.bars(round, s, i);
        }
        x.where(round, s, -1, -1);
        x.doubt(round, s);
        x.since(round, s, true);
        x.nearest(round, s, true);
        x.pairs(round, s, 0, 999);
        x.way(round, s, 1, 999);
        for (int c = 0; c < 4; c++) {
          x.lacks(round, s, 3, c);
          x.lacks(round, s, c, 2);
          x.stretch(round, s, c, 0, true, true);
          x.wrong(round, s, c, 0);
          x.first(round, s, c, 0, 9);
          x.fits(round, s, c, -1);
        }
      }
      for (int p = 0; p < 4; p++) {
        x.shift(round, p, 0);
        x.shift(round, p, 999);
        x.known(round, p);
        x.rivals(round, p, 0, 1);
        x.found(round, p, 0, 1, 7, 20, 8, true);
        x.sees(round, p);
        x.sneak(round, p, 0, 3);
        x.proud(round, p);
        x.differs(round, 1 - round, p);
      }
      x.most(round);
      x.hidden(round);
      x.guards(round, 0);
      x.peaks(round);
      isUnchanged("asking about LAND " + round, x);
    }
  }
}
