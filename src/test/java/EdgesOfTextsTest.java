import java.util.function.ToIntFunction;

/**
 * Terms 1 and promises 1 to 5, sentence by sentence: the least, the greatest, one too small, one too large, none, too many.
 * What is told of lands, sketches and images is in EdgesOfTellingTest.
 */
public final class EdgesOfTextsTest {
  private static final int MIN = Integer.MIN_VALUE;
  private static final int MAX = Integer.MAX_VALUE;

  public static void main(String[] args) {
    sizes();
    landNumbers();
    sketchNumbers();
    atFirst();
    digits();
    blanks();
    signs();
    words();
    clauses();
    manyHeights();
    manyThings();
    manyHumps();
    towerWithBare();
    laterOnes();
    whichFault();
    fullTape();
    newObject();
    feed();
    noRoom();
    end();
    text();
    fault();
    Check.finish("EdgesOfTextsTest");
  }

  /** A text that must be read. */
  private static HillSketch takes(int sort, String text) {
    HillSketch x = new HillSketch();
    Check.feed(x, text);
    Check.due("text of '" + text + "'", x.text(sort, -1), 0);
    Check.due("fault of '" + text + "'", x.fault(0), 0);
    Check.due("fault's place of '" + text + "'", x.fault(1), -1);
    return x;
  }

  /** All numbers of three digits at one place of a text: those from least to most are taken, the others are FAULT 2 there. */
  private static void range(int sort, String before, String after, int least, int most, ToIntFunction<HillSketch> told) {
    for (int v = 0; v < 1000; v++) {
      String text = before + v + after;
      if (v < least || v > most) Check.fault(sort, text, 2, before.length());
      else Check.due("told by '" + text + "'", told.applyAsInt(takes(sort, text)), v);
    }
  }

  private static void sizes() {
    for (int w = 2; w <= 12; w++) {
      for (int h = 2; h <= 12; h++) {
        HillSketch x = takes(0, "size " + w + " " + h + ";");
        Check.due("W of " + w + " " + h, x.land(0, 0), w);
        Check.due("H of " + w + " " + h, x.land(0, 1), h);
        Check.due("the first PLACE of " + w + " " + h, x.height(0, 0), 0);
        Check.due("the last PLACE of " + w + " " + h, x.height(0, w * h - 1), 0);
        Check.due("no PLACE of " + w + " " + h, x.height(0, w * h), -1);
      }
    }
  }

  private static void landNumbers() {
    range(0, "size ", " 5;", 2, 12, x -> x.land(0, 0));
    range(0, "size 5 ", ";", 2, 12, x -> x.land(0, 1));
    range(0, "heights ", ";", 0, 999, x -> x.height(0, 0));
    range(0, "heights 7 8 ", " 9;", 0, 999, x -> x.height(0, 2));
    range(0, "eye ", ";", 0, 9, x -> x.land(0, 2));
    range(0, "bend ", ";", 0, 99, x -> x.land(0, 3));
    range(0, "haze ", ";", 1, 999, x -> x.land(0, 4));
    range(0, "size 12 12;lake ", ";", 0, 143, x -> x.land(0, 10));
    range(0, "size 12 12;tower ", " 0 99;", 0, 143, x -> x.land(0, 10));
    range(0, "tower 3 ", " 99;", 0, 99, x -> x.land(0, 50));
    range(0, "tower 3 0 ", ";", 0, 99, x -> x.land(0, 70));
    range(0, "tower 3 50 ", ";", 50, 99, x -> x.land(0, 70));
    range(0, "tower 3 99 ", ";", 99, 99, x -> x.land(0, 70));
  }

  private static void sketchNumbers() {
    range(1, "hump ", ";", 1, 99, x -> x.sketch(0, 10));
    range(1, "hump 5;hump ", " lake;", 1, 99, x -> x.sketch(0, 11));
    range(1, "hump 5;give ", ";", 0, 99, x -> x.sketch(0, 1));
    range(1, "hump 5;years ", " 99;", 0, 99, x -> x.sketch(0, 5));
    range(1, "hump 5;years 0 ", ";", 0, 99, x -> x.sketch(0, 6));
    range(1, "hump 5;years 50 ", ";", 50, 99, x -> x.sketch(0, 6));
    range(1, "hump 5;years 99 ", ";", 99, 99, x -> x.sketch(0, 6));
  }

  private static void atFirst() {
    HillSketch x = takes(0, "");
    int[] land = {4, 4, 0, 0, 999, 0};
    for (int what = 0; what < 6; what++) Check.due("land(0, " + what + ") at first", x.land(0, what), land[what]);
    for (int p = 0; p < 16; p++) Check.due("HEIGHT of " + p + " at first", x.height(0, p), 0);
    Check.due("PLACE 16 at first", x.height(0, 16), -1);
    HillSketch y = takes(1, "hump 1;");
    int[] sketch = {1, 0, 0, 0, 0, 0, 99};
    for (int what = 0; what < 7; what++) Check.due("sketch(0, " + what + ") at first", y.sketch(0, what), sketch[what]);
    Check.due("marks at first", y.sketch(0, 30), 0);
  }

  /** NUMBERS have 1 to 3 digits, a longer row is no token, whatever its number is. */
  private static void digits() {
    Check.due("one digit", takes(0, "eye 7;").land(0, 2), 7);
    Check.due("two digits", takes(0, "eye 07;").land(0, 2), 7);
    Check.due("three digits", takes(0, "eye 007;").land(0, 2), 7);
    Check.fault(0, "eye 0007;", 1, 4);
    Check.fault(0, "eye 00007;", 1, 4);
    Check.fault(0, "eye 0000000000000000000000000000000000000000;", 1, 4);
    Check.fault(0, "heights 999 1000;", 1, 12);
    Check.fault(0, "heights 1000;", 1, 8);
    Check.fault(0, "heights 99999999999;", 1, 8);
    Check.fault(0, "0007", 1, 0);
    Check.fault(1, "hump 0001;", 1, 5);
    // a FAULT 2 ahead of it counts less
    Check.fault(0, "eye 999;eye 0001;", 1, 12);
  }

  /** Blanks are 10 and 32; they may stand between all tokens, ahead of them and behind them, or not at all. */
  private static void blanks() {
    Check.due("no blanks", takes(0, "size12 11;eye9;lake3;").land(0, 1), 11);
    Check.due("blanks everywhere", takes(0, "\n \n size \n 12\n11 \n ; \n").land(0, 1), 11);
    Check.due("no text at all", takes(0, "").land(0, 0), 4);
    Check.due("blanks alone", takes(0, "\n").land(0, 0), 4);
    Check.due("blanks alone", takes(0, " ").land(0, 0), 4);
    Check.due("seven hundred of them", takes(0, " ".repeat(700)).land(0, 0), 4);
    // a blank in a token makes two of it
    Check.fault(0, "ey e 1;", 1, 0);
    Check.fault(0, "size 1 2 3;", 1, 9);
    Check.due("two numbers", takes(0, "heights 1 2;").height(0, 1), 2);
    Check.due("one number", takes(0, "heights 12;").height(0, 0), 12);
  }

  /** Each of the 256 bytes, alone where nothing, a word, a number or a stop is due. */
  private static void signs() {
    for (int b = 0; b < 256; b++) {
      char sign = (char) b;
      boolean blank = b == 10 || b == 32;
      boolean letter = b >= 'a' && b <= 'z';
      boolean digit = b >= '0' && b <= '9';
      if (blank) takes(0, "eye 1;" + sign); else Check.fault(0, "eye 1;" + sign, 1, 6);
      if (blank) takes(0, sign + "eye 1;"); else Check.fault(0, sign + "eye 1;", 1, 0);
      if (blank) takes(0, "eye " + sign + " 1;"); else if (digit) Check.fault(0, "eye " + sign + " 1;", 1, 6);
      else Check.fault(0, "eye " + sign + " 1;", 1, 4);
      if (blank || b == ';') {
        if (blank) takes(0, "eye 1 " + sign + ";"); else Check.fault(0, "eye 1 " + sign + ";", 1, 7);
      } else {
        Check.fault(0, "eye 1 " + sign + ";", 1, 6);
      }
      if (b != 'e') Check.fault(0, "ey" + sign + " 1;", 1, 0);
      if (blank || b == '0') takes(0, "eye" + sign + "1;"); else if (digit) Check.fault(0, "eye" + sign + "1;", 2, 3);
      else Check.fault(0, "eye" + sign + "1;", 1, letter ? 0 : 3);
    }
  }

  /** Words go as far as their letters do; those of the other sort, parts of words and longer words are none. */
  private static void words() {
    String[] land = {"size 2 3", "heights 1", "eye 1", "bend 1", "haze 1", "lake 1", "tower 1 2 3"};
    String[] sketch = {"hump 1", "give 1", "order", "true", "whole", "half", "turned", "years 1 2"};
    for (String s : land) {
      takes(0, s + ";");
      Check.fault(1, s + ";", 1, 0);
    }
    for (String s : sketch) {
      takes(1, "hump 1;" + s + ";");
      Check.fault(0, s + ";", 1, 0);
    }
    for (int sort = 0; sort < 2; sort++) {
      for (String s : sort == 0 ? land : sketch) {
        String word = s.split(" ")[0];
        String rest = s.substring(word.length()) + ";";
        for (int n = 1; n < word.length(); n++) Check.fault(sort, word.substring(0, n) + rest, 1, 0);
        Check.fault(sort, word + "s" + rest, 1, 0);
        Check.fault(sort, word + word + rest, 1, 0);
        Check.fault(sort, "x" + word + rest, 1, 0);
        Check.fault(sort, word.toUpperCase() + rest, 1, 0);
        // the end of the tape is no end of the text
        Check.fault(sort, s, 1, s.length());
        Check.fault(sort, s + " \n ", 1, s.length() + 3);
      }
    }
    for (String mark : new String[] {"lake", "tower", "bare"}) {
      for (int n = 1; n < mark.length(); n++) Check.fault(1, "hump 1 " + mark.substring(0, n) + ";", 1, 7);
      Check.fault(1, "hump 1 " + mark + "s;", 1, 7);
      Check.fault(1, "hump 1 " + mark + " 1;", 1, 8 + mark.length());
      Check.fault(1, "hump " + mark + ";", 1, 5);
      Check.fault(1, mark + ";", 1, 0);
    }
  }

  /** All texts of up to four tokens, and all of six that begin as a tower or with years: as Plain reads them. */
  private static void clauses() {
    String[] land = {"size", "heights", "eye", "bend", "haze", "lake", "tower", "3", "143", ";", "hump", "1234", "?"};
    String[] sketch = {"hump", "lake", "tower", "bare", "give", "order", "true", "whole", "half", "turned", "years", "3", "0", ";",
      "eye", "1234"};
    for (int sort = 0; sort < 2; sort++) {
      String[] tokens = sort == 0 ? land : sketch;
      for (int length = 0; length <= 4; length++) sequences(sort, "", tokens, length);
    }
    sequences(0, "tower 3 ", land, 3);
    sequences(0, "tower 3 3 3 ", land, 2);
    sequences(0, "size 3 3 ", land, 3);
    sequences(0, "heights 1 ; heights 2 ", land, 2);
    sequences(1, "hump 3 lake ", sketch, 3);
    sequences(1, "hump 3 ; years 3 ", sketch, 3);
  }

  private static void sequences(int sort, String begin, String[] tokens, int more) {
    if (more > 0) {
      for (String token : tokens) sequences(sort, begin + token + " ", tokens, more - 1);
      return;
    }
    HillSketch x = new HillSketch();
    Plain y = new Plain();
    Check.feed(x, begin);
    y.now.tape = begin;
    Check.due("text of '" + begin + "'", x.text(sort, -1), y.text(sort, -1));
    Check.due("fault of '" + begin + "'", x.fault(0), y.fault(0));
    Check.due("fault's place of '" + begin + "'", x.fault(1), y.fault(1));
  }

  private static void manyHeights() {
    String all = "size 12 12;heights" + " 5".repeat(144);
    HillSketch x = takes(0, all + ";");
    Check.due("the 144th HEIGHT", x.height(0, 143), 5);
    // a 145th one, at it, in the same clause or in a further one, whatever the size is
    Check.fault(0, all + " 6;", 3, all.length() + 1);
    Check.fault(0, all + " 6 7 8;", 3, all.length() + 1);
    Check.fault(0, all + ";heights 6;", 3, all.length() + 9);
    Check.fault(0, all + ";size 2 2;heights 6 7;", 3, all.length() + 18);
    Check.fault(0, "heights" + " 5".repeat(145) + ";", 3, 7 + 2 * 144 + 1);
    Check.fault(0, "heights" + " 5".repeat(144) + ";", 4, 7 + 2 * 144 + 1);
    // more than PLACES, at the end's place
    for (int[] size : new int[][] {{2, 2}, {4, 4}, {12, 2}, {2, 12}, {12, 11}, {12, 12}}) {
      String head = "size " + size[0] + " " + size[1] + ";heights" + " 7".repeat(size[0] * size[1]);
      Check.due("as many HEIGHTS as PLACES", takes(0, head + ";").height(0, size[0] * size[1] - 1), 7);
      if (size[0] * size[1] < 144) Check.fault(0, head + " 7; ", 4, head.length() + 4);
    }
    Check.due("a size behind them", takes(0, "heights" + " 7".repeat(17) + ";size 2 9;").height(0, 16), 7);
    Check.fault(0, "size 5 5;heights" + " 7".repeat(17) + ";size 4 4;", 4, 60);
    HillSketch y = takes(0, "heights 1;heights 2 3;eye 1;heights 4;");
    for (int p = 0; p < 5; p++) Check.due("further ones " + p, y.height(0, p), p < 4 ? p + 1 : 0);
  }

  private static void manyThings() {
    String twelve = "size 12 12;";
    for (int k = 0; k < 12; k++) twelve += k % 2 == 0 ? "lake " + (143 - k) + ";" : "tower " + k + " " + k + " " + (99 - k) + ";";
    HillSketch x = takes(0, twelve);
    Check.due("twelve THINGS", x.land(0, 5), 12);
    for (int k = 0; k < 12; k++) {
      boolean lake = k % 2 == 0;
      Check.due("THING " + k, x.land(0, 10 + k), lake ? 143 - k : k);
      Check.due("THING " + k + " is", x.land(0, 30 + k), lake ? 0 : 1);
      Check.due("THING " + k + " from", x.land(0, 50 + k), lake ? 0 : k);
      Check.due("THING " + k + " to", x.land(0, 70 + k), lake ? 99 : 99 - k);
    }
    for (String more : new String[] {"lake 0;", "tower 0 0 0;", "lake 143;lake 3;", "lake 144;", "tower 0 100 0;"}) {
      Check.fault(0, twelve + more, 3, twelve.length());
      Check.fault(0, twelve + " \n" + more, 3, twelve.length() + 2);
    }
    Check.fault(0, "lake 3;".repeat(13), 3, 84);
    Check.fault(0, "tower 3 0 0;".repeat(13), 3, 144);
    // a THING at none, at the end's place
    for (int[] size : new int[][] {{2, 2}, {4, 4}, {12, 2}, {2, 12}, {11, 12}}) {
      int places = size[0] * size[1];
      String head = "size " + size[0] + " " + size[1] + ";";
      takes(0, head + "lake " + (places - 1) + ";tower " + (places - 1) + " 3 4;lake 0;");
      String lake = head + "lake " + places + ";";
      Check.fault(0, lake, 4, lake.length());
      String tower = head + "lake 0;tower " + places + " 3 4;lake 0; ";
      Check.fault(0, tower, 4, tower.length());
      Check.fault(0, head + "lake 143; ", 4, head.length() + 10);
    }
    takes(0, "lake 16;size 12 12;");
    Check.fault(0, "size 12 12;lake 16;size 4 4;", 4, 28);
    String last = "lake 3;".repeat(11) + "lake 16;";
    Check.fault(0, last, 4, last.length());
  }

  private static void manyHumps() {
    String twelve = "";
    String[] marks = {"", " lake", " tower", " bare", " lake tower", " bare lake", " lake lake", " tower tower"};
    int[] bits = {0, 1, 2, 4, 3, 5, 1, 2};
    for (int i = 0; i < 12; i++) twelve += "hump " + (99 - i) + marks[i % 8] + ";";
    HillSketch x = takes(1, twelve);
    Check.due("twelve HUMPS", x.sketch(0, 0), 12);
    for (int i = 0; i < 12; i++) {
      Check.due("HEIGHT of HUMP " + i, x.sketch(0, 10 + i), 99 - i);
      Check.due("marks of HUMP " + i, x.sketch(0, 30 + i), bits[i % 8]);
    }
    for (String more : new String[] {"hump 1;", "hump 0;", "hump 1 tower bare;", "hump 1;hump 1;give 100;"}) {
      Check.fault(1, twelve + more, 3, twelve.length());
      Check.fault(1, twelve + "half;" + more, 3, twelve.length() + 5);
    }
    Check.fault(1, "", 4, 0);
    Check.fault(1, " ", 4, 1);
    Check.fault(1, "half;", 4, 5);
    Check.fault(1, "give 1;true;turned; \n", 4, 21);
    takes(1, "half;hump 1;");
  }

  /** At the second one of both, of one HUMP. */
  private static void towerWithBare() {
    Check.fault(1, "hump 1 tower bare;", 2, 13);
    Check.fault(1, "hump 1 bare tower;", 2, 12);
    Check.fault(1, "hump 1 lake tower lake tower lake bare;", 2, 34);
    Check.fault(1, "hump 1 bare bare lake bare tower tower bare;", 2, 27);
    Check.fault(1, "hump 1 tower;hump 1 bare tower;", 2, 25);
    HillSketch x = takes(1, "hump 1 tower;hump 1 bare;hump 1 tower;");
    for (int i = 0; i < 3; i++) Check.due("of one HUMP alone, " + i, x.sketch(0, 30 + i), i == 1 ? 4 : 2);
  }

  private static void laterOnes() {
    HillSketch x = takes(0, "size 3 4;eye 1;bend 2;haze 3;size 5 6;eye 4;bend 5;haze 6;size 7 8;");
    int[] land = {7, 8, 4, 5, 6, 0};
    for (int what = 0; what < 6; what++) Check.due("later ones strike, land " + what, x.land(0, what), land[what]);
    HillSketch y = takes(1, "hump 1;give 5;true;half;turned;years 3 4;give 6;order;whole;turned;years 5 6;");
    int[] sketch = {1, 6, 0, 0, 1, 5, 6};
    for (int what = 0; what < 7; what++) Check.due("later ones strike, sketch " + what, y.sketch(0, what), sketch[what]);
    HillSketch z = takes(1, "order;whole;order;true;whole;half;hump 2;");
    Check.due("later ones strike, TRUE", z.sketch(0, 2), 1);
    Check.due("later ones strike, HALF", z.sketch(0, 3), 1);
    // one that can't be is a FAULT, even if a later one strikes it
    Check.fault(0, "eye 10;eye 1;", 2, 4);
    Check.fault(1, "give 100;give 1;hump 1;", 2, 5);
  }

  private static void whichFault() {
    // 1 ahead of all others, wherever they are; the first of several
    Check.fault(0, "eye 10;lake 16;haze", 1, 19);
    Check.fault(0, "eye 10;?;eye;;", 1, 7);
    Check.fault(1, "hump 0;hump 1 tower bare;hump", 1, 29);
    Check.fault(1, "hump 1;".repeat(13) + "?", 1, 91);
    Check.fault(1, "?", 1, 0);
    // 2 and 3: the first by place
    String lakes = "lake 3;".repeat(12);
    Check.fault(0, lakes + "eye 10;lake 3;", 2, 88);
    Check.fault(0, lakes + "lake 3;eye 10;", 3, 84);
    Check.fault(0, "size 13 1;", 2, 5);
    Check.fault(0, "size 12 1;", 2, 8);
    Check.fault(0, "tower 144 100 100;", 2, 6);
    Check.fault(0, "tower 143 100 100;", 2, 10);
    Check.fault(0, "tower 143 99 98;", 2, 13);
    Check.fault(1, "years 100 100;", 2, 6);
    Check.fault(1, "hump 0 tower bare;", 2, 5);
    Check.fault(1, "hump 1;".repeat(12) + "give 100;hump 1;", 2, 89);
    Check.fault(1, "hump 1;".repeat(12) + "hump 0;give 100;", 3, 84);
    String heights = "heights" + " 1".repeat(144);
    Check.fault(0, heights + " 1;haze 0;", 3, 296);
    Check.fault(0, heights + ";haze 0;heights 1;", 2, 301);
    // 4 only without all of these
    Check.fault(0, "lake 16;eye 10;", 2, 12);
    Check.fault(0, "lake 16;eye 1;", 4, 14);
    Check.fault(0, "lake 16;".repeat(13), 3, 96);
    Check.fault(0, "heights" + " 1".repeat(17) + ";haze 0;", 2, 47);
    Check.fault(1, "give 100;", 2, 5);
    Check.fault(1, "hump 0;", 2, 5);
  }

  /** A text of 700 bytes is read to its last byte. */
  private static void fullTape() {
    String all = "size 12 12;heights" + " 999".repeat(144);
    String full = all + " ".repeat(699 - all.length()) + ";";
    Check.due("700 bytes", takes(0, full).height(0, 143), 999);
    Check.fault(0, all + " ".repeat(700 - all.length()), 1, 700);
    Check.fault(0, full.substring(0, 699) + "?", 1, 699);
    Check.fault(0, ";".repeat(700), 1, 0);
    takes(0, "eye 1;" + "eye 9;".repeat(115) + "    ");
    takes(0, "eye1;".repeat(140));
    Check.due("the last clause", takes(0, "eye1;".repeat(139) + "eye9;").land(0, 2), 9);
    Check.due("the last clause", takes(1, "half;".repeat(138) + "\n\n\nhump9;").sketch(0, 10), 9);
    Check.fault(1, "half;".repeat(140), 4, 700);
    Check.due("a HUMP of many words", takes(1, "hump 1" + " lake".repeat(138) + "  ;").sketch(0, 30), 1);
    Check.fault(1, "hump 1" + " lake".repeat(138) + "   ", 1, 699);
    Check.fault(0, "a".repeat(700), 1, 0);
    Check.fault(0, "1".repeat(700), 1, 0);
    Check.fault(0, "eye " + "1".repeat(696), 1, 4);
  }

  private static void newObject() {
    for (int sort = 0; sort < 2; sort++) {
      HillSketch x = new HillSketch();
      Check.due("1: none of sort " + sort, x.count(sort), 0);
      Check.due("1: none to take the place of", x.text(sort, 0), -2);
      Check.due("1: the first one", Check.land(x, ""), 0);
    }
    HillSketch y = new HillSketch();
    Check.due("1: no bytes", y.end(0), 0);
    Check.due("1: no bytes", y.end(1), -1);
    Check.due("1: no FAULT", y.fault(0), 0);
    Check.due("1: no place", y.fault(1), -1);
    for (int k = 0; k < 3; k++) Check.due("1: no image " + k, y.again(k), false);
    // one object knows nothing of another one
    HillSketch one = Check.on("eye 1;", "hump 1;");
    one.image(0);
    Check.feed(one, "?");
    HillSketch other = new HillSketch();
    Check.due("1: no LANDS", other.count(0), 0);
    Check.due("1: no SKETCHES", other.count(1), 0);
    Check.due("1: no images", other.again(0), false);
    Check.due("1: no tape", other.end(1), -1);
  }

  /** Each of the twenty bytes at its own place, of each number the highest first, behind what there was. */
  private static void feed() {
    for (int ahead = 0; ahead <= 40; ahead += 20) {
      for (int i = 0; i < 20; i++) {
        for (int sign : new int[] {'?', 0, 127, 128, 255}) {
          HillSketch x = new HillSketch();
          for (int k = 0; k < ahead; k += 20) x.feed(0x20202020, 0x0a0a0a0a, 0x20202020, 0x20202020, 0x20202020);
          int[] v = {0x20202020, 0x20202020, 0x20202020, 0x20202020, 0x20202020};
          v[i / 4] ^= (0x20 ^ sign) << 24 - 8 * (i % 4);
          Check.due("2: how many", x.feed(v[0], v[1], v[2], v[3], v[4]), ahead + 20);
          Check.due("2: byte " + i + " is " + sign, x.text(0, -1), -1);
          Check.due("2: byte " + i + " is " + sign, x.fault(1), ahead + i);
        }
      }
    }
    HillSketch x = new HillSketch();
    Check.feed(x, "eye 8;bend 77;haze 666;size 5 6;");
    Check.due("2: texts of more than twenty", x.text(0, -1), 0);
    int[] told = {5, 6, 8, 77, 666};
    for (int what = 0; what < 5; what++) Check.due("2: texts of more than twenty, " + what, x.land(0, what), told[what]);
    for (int v : new int[] {MIN, MAX, -1, 0}) Check.due("2: any numbers", new HillSketch().feed(v, v, v, v, v), 20);
  }

  /** From 681 bytes on there is no room for twenty: nothing comes, nothing goes. */
  private static void noRoom() {
    for (int had = 678; had <= 700; had++) {
      HillSketch x = new HillSketch();
      String text = "eye 7;" + " ".repeat(had - 6);
      Check.feed(x, text);
      boolean room = had <= 680;
      Check.due("2: behind " + had, x.feed('?' << 24, MAX, MIN, 0, -1), room ? had + 20 : -1);
      Check.due("2: behind " + had + ", how many", x.end(had + 1), room ? had + 1 : -1);
      if (!room) {
        Check.due("2: behind " + had + ", again", x.feed(0, 0, 0, 0, 0), -1);
        Check.due("2: behind " + had + ", what there was", x.text(0, -1), 0);
        Check.due("2: behind " + had + ", what there was", x.land(0, 2), 7);
        Check.due("2: there is room then", x.feed(0, 0, 0, 0, 0), 20);
      } else {
        x.text(0, -1);
        Check.due("2: behind " + had + ", what came", x.fault(1), had);
      }
    }
    HillSketch y = new HillSketch();
    for (int k = 1; k <= 35; k++) y.feed(0, 0, 0, 0, 0);
    Check.due("2: 700 and 20", y.feed(0, 0, 0, 0, 0), -1);
    Check.due("2: all 700 are there", y.end(700), 700);
    y.end(680);
    Check.due("2: room for just twenty", y.feed(0, 0, 0, 0, 0), 700);
  }

  private static void end() {
    for (int had = 0; had <= 40; had += 20) {
      for (int n = -1; n <= had + 1; n++) {
        HillSketch x = new HillSketch();
        for (int k = 0; k < had; k += 20) x.feed(0x20202020, 0x20202020, 0x20202020, 0x20202020, 0x20202020);
        boolean can = n >= 0 && n <= had;
        Check.due("3: end(" + n + ") of " + had, x.end(n), can ? n : -1);
        // the end's place of an empty SKETCH tells how many there are
        x.text(1, -1);
        Check.due("3: left by end(" + n + ") of " + had, x.fault(1), can ? n : had);
      }
    }
    HillSketch x = new HillSketch();
    Check.feed(x, "eye 7;eye 8;eye 9;bend");
    for (int n : new int[] {MIN, MIN + 1, -20, -1, 23, 700, 701, MAX}) Check.due("3: end(" + n + ")", x.end(n), -1);
    Check.due("3: all of them", x.end(22), 22);
    Check.due("3: all but bend", x.end(18), 18);
    Check.due("3: one fewer than had been", x.end(19), -1);
    Check.due("3: the first twelve", x.end(12), 12);
    Check.feed(x, "haze 6;");
    Check.due("3: others come behind these", x.text(0, -1), 0);
    Check.due("3: the first twelve", x.land(0, 2), 8);
    Check.due("3: others come behind these", x.land(0, 4), 6);
    Check.due("3: what was cut off is gone", x.land(0, 3), 0);
    Check.due("3: the tape that was taken has none", x.end(0), 0);
    Check.due("3: the tape that was taken has none", x.end(1), -1);
  }

  private static void text() {
    HillSketch x = new HillSketch();
    for (int k = 0; k < 2; k++) Check.due("4: LAND " + k, Check.land(x, "eye " + k + ";"), k);
    for (int k = 0; k < 4; k++) Check.due("4: SKETCH " + k, Check.sketch(x, "hump " + (k + 1) + ";"), k);
    for (int sort = 0; sort < 2; sort++) {
      int all = sort == 0 ? 2 : 4;
      for (int at : new int[] {-1, -2, all, all + 1, 143, MIN, MAX}) {
        Check.feed(x, "haze 0;");
        Check.due("4: text(" + sort + ", " + at + ") of all", x.text(sort, at), -2);
        Check.due("4: text(" + sort + ", " + at + "), no text is read", x.fault(0), 0);
        Check.due("4: text(" + sort + ", " + at + "), no text is read", x.fault(1), -1);
        Check.due("4: text(" + sort + ", " + at + "), the tape is taken", x.end(1), -1);
      }
      Check.due("4: none more of " + sort, x.count(sort), all);
    }
    for (int sort : new int[] {-1, 2, 3, MIN, MAX}) {
      for (int at : new int[] {-1, 0, 1}) Check.due("4: no sort " + sort, x.text(sort, at), -2);
    }
    for (int k = 0; k < 2; k++) Check.due("4: LAND " + k + " is as it was", x.land(k, 2), k);
    for (int k = 0; k < 4; k++) Check.due("4: SKETCH " + k + " is as it was", x.sketch(k, 10), k + 1);
    inThePlaceOf(x);
    // the last number that there is, and the next one, of one alone
    HillSketch y = Check.on("", "hump 1;");
    Check.due("4: no second LAND yet", y.text(0, 1), -2);
    Check.due("4: no second SKETCH yet", y.text(1, 1), -2);
    Check.due("4: a SKETCH is no LAND", y.count(0), 1);
  }

  private static void inThePlaceOf(HillSketch x) {
    for (int k = 0; k < 2; k++) {
      Check.feed(x, "size 3 3;heights 8;bend 9;lake 8;");
      Check.due("4: in the place of LAND " + k, x.text(0, k), k);
      Check.due("4: in the place of LAND " + k, x.land(k, 3), 9);
      Check.feed(x, "");
      Check.due("4: in the place of LAND " + k, x.text(0, k), k);
      int[] told = {4, 4, 0, 0, 999, 0};
      for (int what = 0; what < 6; what++) Check.due("4: nothing of it is left, " + what, x.land(k, what), told[what]);
      Check.due("4: nothing of it is left", x.height(k, 0), 0);
      Check.feed(x, "size 2 2;eye 5;haze 0;");
      Check.due("4: a FAULT takes no place", x.text(0, k), -1);
      Check.due("4: a FAULT takes no place", x.land(k, 0), 4);
      Check.due("4: but the tape", x.end(1), -1);
    }
    for (int k = 0; k < 4; k++) {
      Check.feed(x, "hump 9 lake;hump 8;give 7;true;half;turned;years 3 4;");
      Check.due("4: in the place of SKETCH " + k, x.text(1, k), k);
      Check.feed(x, "hump 2;");
      Check.due("4: in the place of SKETCH " + k, x.text(1, k), k);
      int[] told = {1, 0, 0, 0, 0, 0, 99};
      for (int what = 0; what < 7; what++) Check.due("4: nothing of it is left, " + what, x.sketch(k, what), told[what]);
      Check.due("4: nothing of it is left", x.sketch(k, 30), 0);
      Check.due("4: nothing of it is left", x.sketch(k, 11), -1);
      Check.feed(x, "hump 5;hump 6;give 100;");
      Check.due("4: a FAULT takes no place", x.text(1, k), -1);
      Check.due("4: a FAULT takes no place", x.sketch(k, 10), 2);
      Check.due("4: but the tape", x.end(1), -1);
    }
    Check.due("4: as many LANDS", x.count(0), 2);
    Check.due("4: as many SKETCHES", x.count(1), 4);
  }

  private static void fault() {
    HillSketch x = Check.on("", "hump 1;");
    x.image(0);
    Check.land(x, " bend 100;");
    for (int what : new int[] {-1, 2, 3, -2, MIN, MAX}) Check.due("5: fault(" + what + ")", x.fault(what), -1);
    // it stays until the next text(), whatever is called and refused
    x.feed(0, 0, 0, 0, 0);
    x.end(0);
    x.end(99);
    x.mend(0, 0, 5);
    x.mend(0, 99, 5);
    x.draw(0, 5, 0, 1, -1);
    x.draw(0, 99, 0, 1, -1);
    x.scrawl(0, 5, 0, 1, 1, 1, 0);
    x.image(1);
    x.again(2);
    x.where(0, 0, -1, -1);
    Check.due("5: still of the latest text", x.fault(0), 2);
    Check.due("5: still of the latest text", x.fault(1), 6);
    x.again(0);
    Check.due("5: as the image has it", x.fault(0), 0);
    Check.due("5: as the image has it", x.fault(1), -1);
    x.again(1);
    Check.due("5: as the image has it", x.fault(0), 2);
    Check.due("5: as the image has it", x.fault(1), 6);
    x.text(0, 7);
    Check.due("5: -2 is no FAULT", x.fault(0), 0);
    Check.due("5: -2 is no FAULT", x.fault(1), -1);
    Check.land(x, "?");
    Check.due("5: the first place", x.fault(1), 0);
    Check.sketch(x, "hump 2;");
    Check.due("5: without", x.fault(0), 0);
    Check.due("5: without", x.fault(1), -1);
  }
}
