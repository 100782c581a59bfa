import java.util.Arrays;

/** Promises 6 to 9 and 43 to 45, sentence by sentence: what is told of lands and sketches, mended heights, images. */
public final class EdgesOfTellingTest {
  private static final int MIN = Integer.MIN_VALUE;
  private static final int MAX = Integer.MAX_VALUE;
  private static final int[] FAR = {MIN, MIN + 1, -1000, -100, -31, -11, -3, -2, 91, 100, 999, 1000, MAX - 1, MAX};

  public static void main(String[] args) {
    land();
    landNumbers();
    height();
    mend();
    sketch();
    sketchNumbers();
    count();
    fullImages();
    tapeOfImages();
    fewerThanNow();
    neverTaken();
    apart();
    anew();
    Check.finish("EdgesOfTellingTest");
  }

  /** A LAND of the greatest size with all HEIGHTS, and all THINGS that there may be; number by number it is another one. */
  private static String fullLand(int number) {
    StringBuilder s = new StringBuilder("size 12 12;heights");
    for (int p = 0; p < 144; p++) s.append(' ').append((p * 7 + number) % 100);
    s.append(";eye ").append(number).append(";bend ").append(90 + number).append(";haze ").append(900 + number).append(";");
    for (int k = 0; k < 12; k++) {
      s.append(k % 2 == number % 2 ? "lake " + (100 + k) + ";" : "tower " + (2 * k + number) + " " + k + " " + (60 + k) + ";");
    }
    return s.toString();
  }

  private static String fullSketch(int number) {
    StringBuilder s = new StringBuilder();
    String[] marks = {"", " lake", " tower", " bare lake"};
    for (int i = 0; i < 12; i++) s.append("hump ").append(50 + 3 * number + i).append(marks[(i + number) % 4]).append(";");
    s.append("give ").append(10 * number + 7).append(";years ").append(number).append(" ").append(98 - number).append(";");
    return s + (number % 2 == 0 ? "true;" : "half;") + (number < 2 ? "turned;" : "");
  }

  /** All that is told of a land but its heights. */
  private static int[] landOf(HillSketch x, int land) {
    int[] told = new int[92];
    for (int what = -1; what <= 90; what++) told[what + 1] = x.land(land, what);
    return told;
  }

  private static int[] heightsOf(HillSketch x, int land) {
    int[] told = new int[146];
    for (int p = -1; p <= 144; p++) told[p + 1] = x.height(land, p);
    return told;
  }

  private static int[] sketchOf(HillSketch x, int sketch) {
    int[] told = new int[46];
    for (int what = -1; what <= 44; what++) told[what + 1] = x.sketch(sketch, what);
    return told;
  }

  private static void same(String call, int[] got, int[] want) {
    for (int i = 0; i < want.length; i++) Check.due(call + ", " + (i - 1), got[i], want[i]);
  }

  private static void land() {
    for (int things = 0; things <= 12; things++) {
      String text = "size 11 12;eye 9;bend 99;haze 1;";
      for (int k = 0; k < things; k++) text += k % 3 == 0 ? "lake " + (131 - k) + ";" : "tower " + k + " " + (k - 1) + " " + (88 + k) + ";";
      int[] want = new int[92];
      Arrays.fill(want, -1);
      int[] plain = {11, 12, 9, 99, 1, things};
      for (int what = 0; what < 6; what++) want[what + 1] = plain[what];
      for (int k = 0; k < things; k++) {
        boolean lake = k % 3 == 0;
        want[11 + k] = lake ? 131 - k : k;
        want[31 + k] = lake ? 0 : 1;
        want[51 + k] = lake ? 0 : k - 1;
        want[71 + k] = lake ? 99 : 88 + k;
      }
      same("6: of " + things + " THINGS", landOf(Check.on(text), 0), want);
    }
  }

  private static void landNumbers() {
    HillSketch x = Check.on(fullLand(0));
    for (int what : FAR) Check.due("6: land(0, " + what + ")", x.land(0, what), -1);
    int[] none = new int[92];
    Arrays.fill(none, -1);
    for (int land : new int[] {-1, 1, 2, MIN, MAX}) same("6: LAND " + land, landOf(Check.on(fullLand(0)), land), none);
    same("6: no LAND yet", landOf(new HillSketch(), 0), none);
    HillSketch y = Check.on(fullLand(1));
    Check.land(y, fullLand(2));
    Check.due("6: the first one", y.land(0, 4), 901);
    Check.due("6: the second one", y.land(1, 4), 902);
    Check.due("6: no third one", y.land(2, 4), -1);
  }

  private static void height() {
    HillSketch x = Check.on(fullLand(3));
    int[] want = new int[146];
    Arrays.fill(want, -1);
    for (int p = 0; p < 144; p++) want[p + 1] = (p * 7 + 3) % 100;
    same("7: of all PLACES", heightsOf(x, 0), want);
    for (int p : new int[] {MIN, -144, -2, 145, 288, MAX}) Check.due("7: PLACE " + p, x.height(0, p), -1);
    for (int land : new int[] {-1, 1, 2, MIN, MAX}) Check.due("7: LAND " + land, x.height(land, 0), -1);
    Check.due("7: no LAND yet", new HillSketch().height(0, 0), -1);
    HillSketch y = Check.on("size 2 2;heights 1 2 3 4;");
    Check.land(y, "size 3 2;heights 5 6 7 8 9 10;");
    for (int p = 0; p < 6; p++) {
      Check.due("7: of the first one, " + p, y.height(0, p), p < 4 ? p + 1 : -1);
      Check.due("7: of the second one, " + p, y.height(1, p), p + 5);
    }
  }

  private static void mend() {
    HillSketch x = Check.on(fullLand(0));
    for (int h : new int[] {0, 1, 998, 999}) {
      for (int p : new int[] {0, 1, 142, 143}) {
        Check.due("8: mend(0, " + p + ", " + h + ")", x.mend(0, p, h), true);
        Check.due("8: mend(0, " + p + ", " + h + ")", x.height(0, p), h);
        Check.due("8: as it is", x.mend(0, p, h), true);
      }
    }
    Check.due("8: no other one", x.height(0, 2), 14);
    Check.due("8: no other one", x.height(0, 141), 141 * 7 % 100);
    for (int h : new int[] {MIN, -1000, -1, 1000, 1001, MAX}) {
      Check.due("8: not to " + h, x.mend(0, 5, h), false);
      Check.due("8: not to " + h, x.height(0, 5), 35);
    }
    for (int p : new int[] {MIN, -1, 144, 145, MAX}) Check.due("8: not " + p, x.mend(0, p, 5), false);
    for (int land : new int[] {MIN, -1, 1, 2, MAX}) Check.due("8: not of " + land, x.mend(land, 0, 5), false);
    HillSketch y = Check.on("size 2 2;");
    Check.land(y, "size 2 3;");
    Check.due("8: PLACE 4 of the first one", y.mend(0, 4, 7), false);
    Check.due("8: PLACE 4 of the second one", y.mend(1, 4, 7), true);
    Check.due("8: of the second one alone", y.height(1, 4), 7);
    Check.due("8: of the second one alone", y.mend(1, 3, 8), true);
    Check.due("8: of the second one alone", y.height(0, 3), 0);
    Check.due("8: no LAND yet", new HillSketch().mend(0, 0, 0), false);
  }

  private static void sketch() {
    for (int n = 1; n <= 12; n++) {
      String text = "give 99;half;turned;years 99 99;true;";
      for (int i = 0; i < n; i++) text += "hump " + (99 - i) + (i % 2 == 1 ? " lake" : "") + (i % 3 == 1 ? " tower" : i % 3 == 2 ? " bare" : "") + ";";
      int[] want = new int[46];
      Arrays.fill(want, -1);
      int[] plain = {n, 99, 1, 1, 1, 99, 99};
      for (int what = 0; what < 7; what++) want[what + 1] = plain[what];
      for (int i = 0; i < n; i++) {
        want[11 + i] = 99 - i;
        want[31 + i] = i % 2 + (i % 3 == 1 ? 2 : i % 3 == 2 ? 4 : 0);
      }
      HillSketch x = new HillSketch();
      Check.sketch(x, text);
      same("9: of " + n + " HUMPS", sketchOf(x, 0), want);
    }
  }

  private static void sketchNumbers() {
    HillSketch x = new HillSketch();
    for (int k = 0; k < 4; k++) Check.sketch(x, fullSketch(k));
    for (int what : FAR) Check.due("9: sketch(3, " + what + ")", x.sketch(3, what), -1);
    for (int what : new int[] {45, 50, 52, 70}) Check.due("9: sketch(3, " + what + ")", x.sketch(3, what), -1);
    int[] none = new int[46];
    Arrays.fill(none, -1);
    for (int sketch : new int[] {-1, 4, 5, MIN, MAX}) same("9: SKETCH " + sketch, sketchOf(x, sketch), none);
    same("9: no SKETCH yet", sketchOf(new HillSketch(), 0), none);
    for (int k = 0; k < 4; k++) Check.due("9: GIVE of SKETCH " + k, x.sketch(k, 1), 10 * k + 7);
  }

  private static void count() {
    HillSketch x = new HillSketch();
    for (int k = 0; k < 6; k++) {
      Check.due("43: LANDS, " + k, x.count(0), Math.min(k, 2));
      Check.due("43: SKETCHES, " + k, x.count(1), Math.min(k, 4));
      Check.land(x, "");
      Check.sketch(x, "hump 1;");
    }
    for (int what : new int[] {MIN, -2, -1, 2, 3, MAX}) Check.due("43: count(" + what + ")", x.count(what), -2);
    for (int what : new int[] {MIN, -1, 2, MAX}) Check.due("43: of a new one, count(" + what + ")", new HillSketch().count(what), -2);
    Check.land(x, "?");
    Check.sketch(x, "?");
    Check.due("43: a FAULT is none", x.count(0), 2);
    Check.due("43: a FAULT is none", x.count(1), 4);
  }

  /** A new object with all LANDS and SKETCHES that there may be, a FAULT and a tape. */
  private static HillSketch full() {
    HillSketch x = new HillSketch();
    for (int k = 0; k < 2; k++) Check.land(x, fullLand(k));
    for (int k = 0; k < 4; k++) Check.sketch(x, fullSketch(k));
    Check.land(x, "size 3 3;");
    Check.feed(x, "    ?");
    Check.due("no place for a third one", x.text(0, 1), -1);
    return x;
  }

  /** Strikes all of it, with texts of other lengths. */
  private static void strike(HillSketch x) {
    for (int k = 0; k < 2; k++) {
      x.sees(k, 70);
      Check.feed(x, "size 12 12;heights 900 901;tower 3 0 99;");
      x.text(0, k);
      x.sees(k, 70);
      x.hump(k, 70, -1);
      Check.feed(x, "size 2 2;heights 900 901;tower 3 0 99;");
      x.text(0, k);
      x.mend(k, 3, 5);
    }
    for (int k = 0; k < 4; k++) {
      Check.feed(x, "hump 3;");
      x.text(1, k);
    }
  }

  /** All that is told, by one object for each part, so that none is called too often. */
  private static void fullImages() {
    for (int k = 0; k < 3; k++) {
      for (int part = 0; part < 8; part++) {
        HillSketch x = full();
        Check.due("44: image(" + k + ")", x.image(k), true);
        strike(x);
        Check.due("45: again(" + k + ")", x.again(k), true);
        HillSketch y = full();
        if (part < 2) same("45: LAND " + part, landOf(x, part), landOf(y, part));
        else if (part < 4) same("45: HEIGHTS of LAND " + (part - 2), heightsOf(x, part - 2), heightsOf(y, part - 2));
        else same("45: SKETCH " + (part - 4), sketchOf(x, part - 4), sketchOf(y, part - 4));
        Check.due("45: LANDS", x.count(0), 2);
        Check.due("45: SKETCHES", x.count(1), 4);
        Check.due("45: FAULT", x.fault(0), 1);
        Check.due("45: its place", x.fault(1), 4);
        // and what is seen is not what was seen in between
        Check.due("45: SEES", x.sees(part % 2, 70), y.sees(part % 2, 70));
        Check.due("45: HUMPS", x.hump(part % 2, 70, -1), y.hump(part % 2, 70, -1));
      }
    }
  }

  /** The tape, byte by byte: of all lengths from none to 700. */
  private static void tapeOfImages() {
    for (int had : new int[] {0, 1, 19, 20, 21, 340, 679, 699, 700}) {
      for (int bad = 0; bad <= had; bad += bad < 25 || bad > 640 ? 1 : 50) {
        HillSketch x = new HillSketch();
        StringBuilder text = new StringBuilder(" ".repeat(had));
        if (bad < had) text.setCharAt(bad, '?');
        Check.feed(x, text.toString());
        x.image(1);
        x.end(0);
        Check.feed(x, "!".repeat(700));
        x.text(0, -1);
        Check.due("45: a FAULT now", x.fault(0), 1);
        x.again(1);
        Check.due("45: no FAULT then", x.fault(0), 0);
        Check.due("45: bytes of the tape", x.end(had + 1), -1);
        Check.due("45: bytes of the tape", x.end(had), had);
        x.text(1, -1);
        // its '?' or, without, its end
        Check.due("45: byte " + bad + " of " + had, x.fault(1), bad);
      }
    }
    // an image's tape is not what is fed behind it
    HillSketch y = new HillSketch();
    Check.feed(y, "eye 1;");
    y.image(0);
    Check.feed(y, "eye 2;");
    y.again(0);
    Check.feed(y, "bend 3;");
    y.text(0, -1);
    Check.due("44: what is fed later", y.land(0, 2), 1);
    Check.due("44: what is fed later", y.land(0, 3), 3);
    y.again(0);
    Check.due("44: the image stays", y.count(0), 0);
    Check.due("44: the image stays", y.end(7), -1);
    Check.due("44: the image stays", y.end(6), 6);
  }

  private static void fewerThanNow() {
    HillSketch x = new HillSketch();
    x.image(0);
    Check.land(x, "eye 3;");
    Check.sketch(x, "hump 4;");
    x.image(1);
    Check.land(x, "eye 5;");
    Check.sketch(x, "hump 6;");
    Check.due("45: one LAND and one SKETCH", x.again(1), true);
    Check.due("45: LANDS", x.count(0), 1);
    Check.due("45: SKETCHES", x.count(1), 1);
    Check.due("45: no second LAND", x.land(1, 2), -1);
    Check.due("45: no second LAND", x.sees(1, 0), -1);
    Check.due("45: no second LAND", x.mend(1, 0, 1), false);
    Check.due("45: no second SKETCH", x.sketch(1, 10), -1);
    Check.due("45: no second SKETCH", x.fits(0, 1, 0, -1), -1);
    Check.due("45: the next one is the second one", Check.land(x, "bend 7;"), 1);
    Check.due("45: nothing is left of what was", x.land(1, 2), 0);
    Check.due("45: the next one is the second one", Check.sketch(x, "hump 8;hump 9;"), 1);
    Check.due("45: none at all", x.again(0), true);
    Check.due("45: no LANDS", x.count(0), 0);
    Check.due("45: no SKETCHES", x.count(1), 0);
    Check.due("45: no LAND", x.land(0, 2), -1);
    Check.due("45: no SKETCH", x.sketch(0, 10), -1);
    Check.due("45: more than now", x.again(1), true);
    Check.due("45: more than now", x.land(0, 2), 3);
    Check.due("45: more than now", x.sketch(0, 10), 4);
  }

  private static void neverTaken() {
    for (int taken = -1; taken < 3; taken++) {
      for (int k = -2; k < 5; k++) {
        HillSketch x = Check.on("eye 1;", "hump 5;");
        if (taken >= 0) Check.due("44: image(" + taken + ")", x.image(taken), true);
        Check.feed(x, "eye 2;");
        x.text(0, 0);
        Check.feed(x, "ey");
        Check.due("45: again(" + k + ") of " + taken, x.again(k), k >= 0 && k == taken);
        Check.due("45: again(" + k + ") of " + taken, x.land(0, 2), k >= 0 && k == taken ? 1 : 2);
        Check.due("45: again(" + k + ") of " + taken + ", the tape", x.end(2), k >= 0 && k == taken ? -1 : 2);
        Check.due("45: again(" + k + ") of " + taken + ", the sketch", x.sketch(0, 10), 5);
      }
    }
    HillSketch x = Check.on("eye 1;");
    for (int k : new int[] {MIN, -2, -1, 3, 4, MAX}) {
      Check.due("44: image(" + k + ")", x.image(k), false);
      Check.due("45: again(" + k + ")", x.again(k), false);
    }
    for (int k = 0; k < 3; k++) Check.due("44: none has been taken by that, " + k, x.again(k), false);
    Check.due("45: nothing has changed", x.land(0, 2), 1);
  }

  /** Images are apart from one another: again() of one changes no other one, nor itself. */
  private static void apart() {
    HillSketch x = Check.on("heights 100;");
    for (int k = 0; k < 3; k++) {
      x.mend(0, 0, 101 + k);
      Check.due("44: image(" + k + ")", x.image(k), true);
    }
    for (int k : new int[] {1, 0, 2, 2, 1, 0, 0}) {
      Check.due("45: again(" + k + ")", x.again(k), true);
      Check.due("45: again(" + k + ")", x.height(0, 0), 101 + k);
      x.mend(0, 0, 900);
      x.mend(0, 5, 900);
      Check.sketch(x, "hump 1;");
    }
    // an image of what an image had is another one
    x.again(0);
    x.image(2);
    x.mend(0, 0, 500);
    x.image(0);
    x.again(2);
    Check.due("44: of what another one had", x.height(0, 0), 101);
    x.again(1);
    Check.due("44: the third one stays", x.height(0, 0), 102);
    x.again(0);
    Check.due("44: taken anew", x.height(0, 0), 500);
  }

  /** A taken image can be taken again, as often as one likes, when there is more or less than had been. */
  private static void anew() {
    HillSketch x = full();
    x.image(1);
    strike(x);
    x.image(1);
    x.mend(0, 0, 7);
    x.again(1);
    Check.due("44: the later one", x.height(0, 0), 900);
    Check.due("44: the later one", x.height(0, 3), 5);
    Check.due("44: the later one", x.height(0, 4), -1);
    Check.due("44: the later one", x.land(1, 5), 1);
    Check.due("44: the later one", x.sketch(3, 0), 1);
    Check.due("44: the later one", x.sketch(3, 11), -1);
    Check.due("44: the later one's FAULT", x.fault(0), 0);
    Check.due("44: the later one's FAULT", x.fault(1), -1);
    HillSketch y = new HillSketch();
    y.image(0);
    Check.land(y, fullLand(0));
    y.image(0);
    y.again(0);
    Check.due("44: more than had been", y.count(0), 1);
    Check.due("44: more than had been", y.height(0, 143), 143 * 7 % 100);
  }
}
