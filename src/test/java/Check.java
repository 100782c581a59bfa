/** What the tests share: answers that are due, and texts told over the tape. */
final class Check {
  private static int wrong = 0;

  private Check() { }

  static void due(String call, long got, long want) {
    if (got != want) {
      wrong++;
      System.out.println(call + " answered " + got + ", due is " + want);
    }
  }

  static void due(String call, boolean got, boolean want) { due(call, got ? 1 : 0, want ? 1 : 0); }

  /** Ends the test, with exit code 1 if an answer was not as due. */
  static void finish(String name) {
    System.out.println(wrong == 0 ? name + ": all answers are as due" : name + ": " + wrong + " answers are not as due");
    if (wrong != 0) System.exit(1);
  }

  /** Puts a text on the tape, behind what it has; at most 700 bytes in all, whole twenties but for the last. */
  static void feed(HillSketch x, String text) {
    int had = 0;
    for (int i = 0; i < text.length(); i += 20) {
      int[] v = new int[5];
      for (int k = 0; k < 20; k++) {
        int sign = i + k < text.length() ? text.charAt(i + k) : 0;
        v[k / 4] = v[k / 4] << 8 | sign;
      }
      had = x.feed(v[0], v[1], v[2], v[3], v[4]);
      if (had < 0) throw new IllegalStateException("the tape is full");
    }
    if (text.length() % 20 != 0) x.end(had - 20 + text.length() % 20);
  }

  static int land(HillSketch x, String text) {
    feed(x, text);
    return x.text(0, HillSketch.NONE);
  }

  static int sketch(HillSketch x, String text) {
    feed(x, text);
    return x.text(1, HillSketch.NONE);
  }

  /** A text that must not be read: its fault and the fault's place. */
  static void fault(int sort, String text, int fault, int at) {
    HillSketch x = new HillSketch();
    feed(x, text);
    due("text of '" + text + "'", x.text(sort, HillSketch.NONE), HillSketch.NONE);
    due("fault of '" + text + "'", x.fault(0), fault);
    due("fault's place of '" + text + "'", x.fault(1), at);
    due("count after '" + text + "'", x.count(sort), 0);
    due("the tape after '" + text + "'", x.end(1), HillSketch.NONE);
  }

  /** A new object with one land. */
  static HillSketch on(String text) {
    HillSketch x = new HillSketch();
    if (land(x, text) != 0) throw new IllegalStateException(text);
    return x;
  }

  /** The same with sketches. */
  static HillSketch on(String text, String... sketches) {
    HillSketch x = on(text);
    for (String s : sketches) {
      if (sketch(x, s) < 0) throw new IllegalStateException(s);
    }
    return x;
  }
}
