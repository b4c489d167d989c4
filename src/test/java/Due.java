/** What the tests of this project share: an answer and the one that is due. */
final class Due {
  private static int asked = 0;
  private static int wrong = 0;

  private Due() {}

  static void due(String call, long got, long want) {
    asked++;
    if (got != want) {
      wrong++;
      System.out.println(call + " answered " + got + ", due is " + want);
    }
  }

  /** All bytes of a text come behind the tape's, as many at once as feed() takes. */
  static int feedAll(FiftyOneCards x, String text) {
    int last = x.count(5);
    for (int i = 0; i < text.length(); i += 5) {
      int[] five = new int[5];
      int n = Math.min(5, text.length() - i);
      for (int k = 0; k < n; k++) five[k] = text.charAt(i + k);
      last = x.feed(n, five[0], five[1], five[2], five[3], five[4]);
    }
    return last;
  }

  static int read(FiftyOneCards x, String text) {
    feedAll(x, text);
    return x.text();
  }

  /** A sheet of ints becomes the told ones. */
  static void tell(FiftyOneCards x, int s, int... told) {
    x.sheet(s, 2, told.length);
    for (int i = 0; i < told.length; i++) x.cell(s, i, told[i]);
  }

  static void end(String test) {
    System.out.println(test + ": " + asked + " answers, " + wrong + " not as due");
    if (wrong != 0) System.exit(1);
  }
}
