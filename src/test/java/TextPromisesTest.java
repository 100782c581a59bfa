/** Promises 1 to 9 and 43 to 45: the tape, texts and their faults, what has been told, images. */
public final class TextPromisesTest {
  private static final int MIN = Integer.MIN_VALUE;
  private static final int MAX = Integer.MAX_VALUE;

  public static void main(String[] args) {
    newObject();
    feed();
    end();
    text();
    tapeIsTaken();
    tokens();
    landFaults();
    sketchFaults();
    fault();
    land();
    height();
    mend();
    sketch();
    count();
    image();
    again();
    Check.finish("TextPromisesTest");
  }

  private static void newObject() {
    HillSketch x = new HillSketch();
    Check.due("NONE", HillSketch.NONE, -1);
    Check.due("1: lands", x.count(0), 0);
    Check.due("1: sketches", x.count(1), 0);
    Check.due("1: tape", x.end(0), 0);
    Check.due("1: tape", x.end(1), -1);
    Check.due("1: fault", x.fault(0), 0);
    Check.due("1: fault's place", x.fault(1), -1);
    for (int k = 0; k < 3; k++) Check.due("1: image " + k, x.again(k), false);
  }

  private static void feed() {
    HillSketch x = new HillSketch();
    for (int k = 1; k <= 35; k++) Check.due("2: feed " + k, x.feed(0, 0, 0, 0, 0), 20 * k);
    Check.due("2: full", x.feed(0, 0, 0, 0, 0), -1);
    Check.due("2: nothing came", x.end(700), 700);
    Check.due("2: nothing came", x.end(701), -1);
    x.end(681);
    Check.due("2: 701 would be too many", x.feed(1, 1, 1, 1, 1), -1);
    x.end(680);
    Check.due("2: 700 are not", x.feed(1, 1, 1, 1, 1), 700);
    HillSketch y = new HillSketch();
    // 'eye 7;', the highest byte of each number first; then bytes above 127
    y.feed('e' << 24 | 'y' << 16 | 'e' << 8 | ' ', '7' << 24 | ';' << 16 | 0x2020, 0x20202020, 0x0a0a0a0a, 0xff202020);
    Check.due("2: byte 16 is 255", y.text(0, -1), -1);
    Check.due("2: byte 16 is 255", y.fault(1), 16);
    y.feed('e' << 24 | 'y' << 16 | 'e' << 8 | ' ', '7' << 24 | ';' << 16 | 0x2020, 0x20202020, 0x0a0a0a0a, 0x20202020);
    Check.due("2: order of bytes", y.text(0, -1), 0);
    Check.due("2: order of bytes", y.land(0, 2), 7);
  }

  private static void end() {
    HillSketch x = new HillSketch();
    x.feed(0, 0, 0, 0, 0);
    Check.due("3: more than it has", x.end(21), -1);
    Check.due("3: below 0", x.end(-1), -1);
    Check.due("3: below 0", x.end(MIN), -1);
    Check.due("3: all", x.end(20), 20);
    Check.due("3: less", x.end(7), 7);
    Check.due("3: no longer", x.end(8), -1);
    Check.due("3: what comes then comes behind it", x.feed(0, 0, 0, 0, 0), 27);
    Check.due("3: none", x.end(0), 0);
  }

  private static void text() {
    HillSketch x = new HillSketch();
    Check.due("4: an empty land", x.text(0, -1), 0);
    Check.due("4: the next one", Check.land(x, "eye 1;"), 1);
    Check.feed(x, "eye 2;");
    Check.due("4: two lands are all", x.text(0, -1), -2);
    Check.due("4: fault", x.fault(0), 0);
    Check.due("4: no text was read, but the tape was taken", x.end(1), -1);
    for (int at : new int[] {2, -2, MIN, MAX}) Check.due("4: no such land " + at, x.text(0, at), -2);
    for (int sort : new int[] {2, -1, MIN, MAX}) Check.due("4: no such sort " + sort, x.text(sort, 0), -2);
    Check.feed(x, "eye 2;");
    Check.due("4: in the place of one", x.text(0, 0), 0);
    Check.due("4: in the place of one", x.land(0, 2), 2);
    Check.due("4: the other one stays", x.land(1, 2), 1);
    Check.due("4: the tape is empty then", x.end(1), -1);
    Check.due("4: no further land", x.count(0), 2);
    Check.due("4: no sketch yet", x.text(1, 0), -2);
    for (int k = 0; k < 4; k++) Check.due("4: sketch " + k, Check.sketch(x, "hump 5;"), k);
    Check.feed(x, "hump 6;");
    Check.due("4: four sketches are all", x.text(1, -1), -2);
    for (int at : new int[] {4, -2, MIN, MAX}) Check.due("4: no such sketch " + at, x.text(1, at), -2);
    Check.feed(x, "hump 6;");
    Check.due("4: in the place of one", x.text(1, 3), 3);
    Check.due("4: in the place of one", x.sketch(3, 10), 6);
    Check.feed(x, "hump 7;eye 1;");
    Check.due("4: with a fault nothing is taken", x.text(1, 3), -1);
    Check.due("4: with a fault nothing is taken", x.sketch(3, 10), 6);
    Check.due("4: but the tape is empty", x.end(1), -1);
    Check.feed(x, "");
    Check.due("4: nothing of the one ahead is left", x.text(0, 0), 0);
    Check.due("4: nothing of the one ahead is left", x.land(0, 2), 0);
  }

  /** The tape is taken by a text() that answers -2, too: the sort and number of those that are not. */
  private static void tapeIsTaken() {
    int[][] noSuch = {{0, 0}, {0, 2}, {0, -2}, {0, MAX}, {0, MIN}, {1, 0}, {1, 4}, {1, -2}, {1, MAX}, {1, MIN},
      {2, -1}, {2, 0}, {-1, -1}, {-1, 0}, {MAX, -1}, {MIN, 0}};
    for (int[] call : noSuch) {
      HillSketch x = new HillSketch();
      String name = "4: text(" + call[0] + ", " + call[1] + ")";
      Check.feed(x, "eye 12;");
      Check.due(name, x.text(call[0], call[1]), -2);
      Check.due(name + ": fault", x.fault(0), 0);
      Check.due(name + ": place", x.fault(1), -1);
      Check.due(name + ": no land", x.count(0), 0);
      Check.due(name + ": no sketch", x.count(1), 0);
      Check.due(name + ": the tape is empty", x.end(1), -1);
      Check.due(name + ": the tape is empty", x.feed(0, 0, 0, 0, 0), 20);
    }
    HillSketch x = new HillSketch();
    Check.feed(x, "eye 2;");
    x.image(1);
    x.text(0, 5);
    Check.due("4: the image has its own tape", x.again(1), true);
    Check.due("4: the image has its own tape", x.text(0, -1), 0);
    Check.due("4: the image has its own tape", x.land(0, 2), 2);
    for (int k = 0; k < 4; k++) Check.sketch(x, "hump 5;");
    Check.land(x, "");
    for (int sort = 0; sort < 2; sort++) {
      Check.feed(x, "hump 6;");
      Check.due("4: as many as may be", x.text(sort, -1), -2);
      Check.due("4: as many as may be, and the tape is empty", x.feed(0, 0, 0, 0, 0), 20);
      x.end(0);
    }
  }

  private static void tokens() {
    HillSketch x = new HillSketch();
    Check.due("tokens need no blanks", Check.land(x, "size3 5;eye07;bend 003\n;\n haze\n\n12;"), 0);
    Check.due("tokens: W", x.land(0, 0), 3);
    Check.due("tokens: H", x.land(0, 1), 5);
    Check.due("tokens: EYE", x.land(0, 2), 7);
    Check.due("tokens: BEND", x.land(0, 3), 3);
    Check.due("tokens: HAZE", x.land(0, 4), 12);
    Check.due("only blanks", Check.land(x, " \n "), 1);
    Check.fault(0, "eye\t1;", 1, 3);
    Check.fault(0, "eye 1;\r", 1, 6);
    Check.fault(0, "Eye 1;", 1, 0);
    Check.fault(0, "eyes 1;", 1, 0);
    Check.fault(0, "ey 1;", 1, 0);
    Check.fault(0, "ey@ 1;", 1, 0);
    Check.fault(0, "eye@ 1;", 1, 3);
    Check.fault(0, "eye 0001;", 1, 4);
    Check.fault(0, "eye -1;", 1, 4);
    Check.fault(0, "eye 1;;", 1, 6);
    Check.fault(0, ";", 1, 0);
    Check.fault(0, "7", 1, 0);
  }

  private static void landFaults() {
    Check.fault(0, "size 3", 1, 6);
    Check.fault(0, "size 3  ", 1, 8);
    Check.fault(0, "size 3;", 1, 6);
    Check.fault(0, "size 3 3 3;", 1, 9);
    Check.fault(0, "heights;", 1, 7);
    Check.fault(0, "heights 1 2", 1, 11);
    Check.fault(0, "tower 1 2;", 1, 9);
    Check.fault(0, "lake 1 eye 1;", 1, 7);
    Check.fault(0, "lake;", 1, 4);
    Check.fault(0, "hump 1;", 1, 0);
    Check.fault(0, "size 1 1;", 2, 5);
    Check.fault(0, "size 2 13;", 2, 7);
    Check.fault(0, "eye 10;", 2, 4);
    Check.fault(0, "bend 100;", 2, 5);
    Check.fault(0, "haze 0;", 2, 5);
    Check.fault(0, "lake 144;", 2, 5);
    Check.fault(0, "tower 144 1 1;", 2, 6);
    Check.fault(0, "tower 1 100 100;", 2, 8);
    Check.fault(0, "tower 1 9 8;", 2, 10);
    Check.fault(0, "tower 1 9 100;", 2, 10);
    // fault 1 goes ahead of all others, wherever it is
    Check.fault(0, "size 1 1;eye 10;eye", 1, 19);
    Check.fault(0, "eye 10;size 1 1;", 2, 4);
    StringBuilder lakes = new StringBuilder();
    for (int k = 0; k < 12; k++) lakes.append("lake 3;");
    Check.due("twelve things", Check.land(new HillSketch(), lakes.toString()), 0);
    Check.fault(0, lakes + "lake 144;", 3, 84);
    Check.fault(0, lakes + "tower 3 0 0;", 3, 84);
    Check.fault(0, "eye 11;" + lakes + "lake 3;", 2, 4);
    Check.fault(0, lakes + "lake 3;eye 11;", 3, 84);
    String all = "size 12 12;heights" + " 1".repeat(144);
    HillSketch x = new HillSketch();
    Check.due("144 heights", Check.land(x, all + ";"), 0);
    Check.due("144 heights", x.height(0, 143), 1);
    Check.fault(0, all + " 7;", 3, all.length() + 1);
    Check.fault(0, all + ";heights 7 8;", 3, all.length() + 9);
    Check.fault(0, "heights" + " 1".repeat(17) + ";", 4, 42);
    Check.due("16 heights", Check.land(new HillSketch(), "heights" + " 1".repeat(16) + ";"), 0);
    Check.fault(0, "size 4 5;lake 19;size 4 4; ", 4, 27);
    Check.due("a later size strikes", Check.land(new HillSketch(), "size 2 2;lake 19;size 4 5;"), 0);
    Check.fault(0, "tower 16 0 0;", 4, 13);
  }

  private static void sketchFaults() {
    Check.fault(1, "", 4, 0);
    Check.fault(1, "half;true; ", 4, 11);
    Check.fault(1, "hump;", 1, 4);
    Check.fault(1, "hump 1 half;", 1, 7);
    Check.fault(1, "hump 1 2;", 1, 7);
    Check.fault(1, "hump 1 lake", 1, 11);
    Check.fault(1, "lake;", 1, 0);
    Check.fault(1, "eye 1;", 1, 0);
    Check.fault(1, "order 1;", 1, 6);
    Check.fault(1, "years 1;", 1, 7);
    Check.fault(1, "give;", 1, 4);
    Check.fault(1, "hump 0;", 2, 5);
    Check.fault(1, "hump 100;", 2, 5);
    Check.fault(1, "give 100;", 2, 5);
    Check.fault(1, "years 100 100;", 2, 6);
    Check.fault(1, "years 9 100;", 2, 8);
    Check.fault(1, "years 9 8;", 2, 8);
    Check.fault(1, "hump 1 bare lake tower;", 2, 17);
    Check.fault(1, "hump 1 tower tower bare bare;", 2, 19);
    Check.fault(1, "hump 1 tower bare;hump", 1, 22);
    StringBuilder humps = new StringBuilder();
    for (int k = 0; k < 12; k++) humps.append("hump 3;");
    Check.due("twelve humps", Check.sketch(new HillSketch(), humps.toString()), 0);
    Check.fault(1, humps + "hump 0;", 3, 84);
    Check.fault(1, humps + "hump 3 tower bare;give 100;", 3, 84);
  }

  private static void fault() {
    HillSketch x = new HillSketch();
    Check.land(x, "eye 12;");
    Check.due("5: fault", x.fault(0), 2);
    Check.due("5: place", x.fault(1), 4);
    Check.due("5: another what", x.fault(2), -1);
    Check.due("5: another what", x.fault(-1), -1);
    Check.due("5: another what", x.fault(MIN), -1);
    x.land(0, 0);
    Check.due("5: still of the latest text", x.fault(0), 2);
    Check.due("5: no such sort", x.text(9, -1), -2);
    Check.due("5: no text was read", x.fault(0), 0);
    Check.due("5: no text was read", x.fault(1), -1);
    Check.land(x, "eye");
    Check.due("5: the end's place", x.fault(1), 3);
    Check.land(x, "eye 1;");
    Check.due("5: without", x.fault(0), 0);
    Check.due("5: without", x.fault(1), -1);
  }

  private static void land() {
    HillSketch x = Check.on("size 5 3;eye 2;bend 30;haze 40;lake 14;tower 0 7 9;tower 3 8 8;eye 4;");
    int[] plain = {5, 3, 4, 30, 40, 3};
    for (int what = 0; what < 6; what++) Check.due("6: land(0, " + what + ")", x.land(0, what), plain[what]);
    int[][] things = {{14, 0, 3}, {0, 1, 1}, {0, 7, 8}, {99, 9, 8}};
    for (int f = 0; f < 4; f++) {
      for (int k = 0; k < 3; k++) Check.due("6: thing " + k + ", " + f, x.land(0, 10 + 20 * f + k), things[f][k]);
      Check.due("6: thing 3, " + f, x.land(0, 13 + 20 * f), -1);
    }
    for (int what : new int[] {-1, 6, 9, 22, 29, 42, 62, 82, 90, MIN, MAX}) {
      Check.due("6: land(0, " + what + ")", x.land(0, what), -1);
    }
    for (int land : new int[] {-1, 1, MIN, MAX}) Check.due("6: land " + land, x.land(land, 0), -1);
    HillSketch y = Check.on("");
    int[] first = {4, 4, 0, 0, 999, 0};
    for (int what = 0; what < 6; what++) Check.due("6: at first " + what, y.land(0, what), first[what]);
  }

  private static void height() {
    HillSketch x = Check.on("size 2 3;heights 7 8;eye 1;heights 999;");
    int[] heights = {7, 8, 999, 0, 0, 0};
    for (int p = 0; p < 6; p++) Check.due("7: height " + p, x.height(0, p), heights[p]);
    for (int p : new int[] {-1, 6, MIN, MAX}) Check.due("7: height " + p, x.height(0, p), -1);
    Check.due("7: no land", x.height(1, 0), -1);
    Check.due("7: no land", x.height(-1, 0), -1);
  }

  private static void mend() {
    HillSketch x = Check.on("size 3 3;heights 1 2 3 4 0 9 5 6 7;");
    Check.due("8: humps before", x.hump(0, 4, -1), 3);
    Check.due("8: mend", x.mend(0, 4, 999), true);
    Check.due("8: mended", x.height(0, 4), 999);
    Check.due("8: and seen so", x.hump(0, 4, -1), 4);
    Check.due("8: mend", x.mend(0, 4, 0), true);
    Check.due("8: and back", x.hump(0, 4, -1), 3);
    Check.due("8: too high", x.mend(0, 4, 1000), false);
    Check.due("8: too low", x.mend(0, 4, -1), false);
    Check.due("8: no such place", x.mend(0, 9, 1), false);
    Check.due("8: no such place", x.mend(0, -1, 1), false);
    Check.due("8: no such land", x.mend(1, 0, 1), false);
    Check.due("8: nothing changed", x.height(0, 4), 0);
  }

  private static void sketch() {
    HillSketch x = Check.on("", "hump 99 lake;hump 1 tower lake;hump 5 bare;hump 6;give 7;true;half;turned;years 3 4;",
      "true;hump 2;order;half;whole;give 9;give 8;years 1 2;years 5 5;");
    int[] one = {4, 7, 1, 1, 1, 3, 4};
    int[] two = {1, 8, 0, 0, 0, 5, 5};
    for (int what = 0; what < 7; what++) {
      Check.due("9: sketch(0, " + what + ")", x.sketch(0, what), one[what]);
      Check.due("9: sketch(1, " + what + ")", x.sketch(1, what), two[what]);
    }
    int[] heights = {99, 1, 5, 6};
    int[] marks = {1, 3, 4, 0};
    for (int i = 0; i < 4; i++) {
      Check.due("9: height " + i, x.sketch(0, 10 + i), heights[i]);
      Check.due("9: marks " + i, x.sketch(0, 30 + i), marks[i]);
    }
    for (int what : new int[] {-1, 7, 9, 14, 22, 34, 42, MIN, MAX}) {
      Check.due("9: sketch(0, " + what + ")", x.sketch(0, what), -1);
    }
    for (int sketch : new int[] {-1, 2, MIN, MAX}) Check.due("9: sketch " + sketch, x.sketch(sketch, 0), -1);
    Check.sketch(x, "hump 2;");
    int[] first = {1, 0, 0, 0, 0, 0, 99};
    for (int what = 0; what < 7; what++) Check.due("9: at first " + what, x.sketch(2, what), first[what]);
  }

  private static void count() {
    HillSketch x = Check.on("", "hump 1;", "hump 2;");
    Check.due("43: lands", x.count(0), 1);
    Check.due("43: sketches", x.count(1), 2);
    for (int what : new int[] {-1, 2, MIN, MAX}) Check.due("43: count " + what, x.count(what), -2);
  }

  private static void image() {
    HillSketch x = Check.on("eye 3;", "hump 1;");
    for (int k = 0; k < 3; k++) Check.due("44: image " + k, x.image(k), true);
    for (int k : new int[] {-1, 3, MIN, MAX}) Check.due("44: image " + k, x.image(k), false);
    x.mend(0, 5, 50);
    Check.due("44: taken anew", x.image(1), true);
    x.again(0);
    Check.due("44: as it was then", x.height(0, 5), 0);
    x.again(1);
    Check.due("44: the later one strikes", x.height(0, 5), 50);
    x.mend(0, 5, 60);
    x.again(1);
    Check.due("44: it is not what is mended", x.height(0, 5), 50);
  }

  private static void again() {
    HillSketch x = Check.on("size 3 3;heights 1 2 3 4 0 9 5 6 7;lake 1;tower 2 3 4;", "hump 1 bare;half;true;turned;give 3;years 1 2;");
    Check.land(x, "bend");
    Check.feed(x, "eye");
    x.image(2);
    x.hump(0, 4, -1);
    Check.feed(x, " 5;");
    Check.land(x, "eye 5;");
    Check.feed(x, "size 2 2;");
    x.text(0, 0);
    Check.sketch(x, "hump 4;hump 5;");
    Check.feed(x, "hump 9;hump 8;hump 7;");
    x.text(1, 0);
    x.hump(0, 0, -1);
    Check.due("45: no such", x.again(0), false);
    Check.due("45: no such", x.again(-1), false);
    Check.due("45: no such", x.again(3), false);
    Check.due("45: again", x.again(2), true);
    Check.due("45: lands", x.count(0), 1);
    Check.due("45: sketches", x.count(1), 1);
    Check.due("45: W", x.land(0, 0), 3);
    Check.due("45: things", x.land(0, 5), 2);
    Check.due("45: tower", x.land(0, 71), 4);
    Check.due("45: height", x.height(0, 5), 9);
    Check.due("45: humps are seen so", x.hump(0, 4, -1), 3);
    int[] told = {1, 3, 1, 1, 1, 1, 2};
    for (int what = 0; what < 7; what++) Check.due("45: sketch(0, " + what + ")", x.sketch(0, what), told[what]);
    Check.due("45: marks", x.sketch(0, 30), 4);
    Check.due("45: fault", x.fault(0), 1);
    Check.due("45: fault's place", x.fault(1), 4);
    Check.due("45: tape", x.end(4), -1);
    Check.due("45: tape", x.end(3), 3);
    Check.feed(x, " 8;");
    Check.due("45: what the tape had", x.text(0, -1), 1);
    Check.due("45: what the tape had", x.land(1, 2), 8);
    HillSketch y = Check.on("");
    Check.land(y, "size 3 3;heights 1 2 3 4 0 9 5 6 7;");
    y.hump(1, 4, -1);
    y.image(0);
    y.mend(1, 4, 100);
    Check.due("45: the second land, too", y.hump(1, 4, -1), 4);
    y.again(0);
    Check.due("45: the second land, too", y.hump(1, 4, -1), 3);
    Check.due("45: as often as one likes", x.again(2), true);
    Check.due("45: as often as one likes", x.count(0), 1);
  }
}
