/** Promises 11 to 17: the tape, texts, the law, heads. */
public final class LawAndHeadsTest {
  private static void feeds() {
    FiftyOneCards x = new FiftyOneCards();
    Due.due("feed(0, ..)", x.feed(0, 1, 2, 3, 4, 5), -2);
    Due.due("feed(6, ..)", x.feed(6, 1, 2, 3, 4, 5), -2);
    for (int bad : new int[] {-1, 256}) {
      Due.due("feed a " + bad, x.feed(5, bad, 0, 0, 0, 0), -2);
      Due.due("feed b " + bad, x.feed(1, 0, bad, 0, 0, 0), -2);
      Due.due("feed c " + bad, x.feed(1, 0, 0, bad, 0, 0), -2);
      Due.due("feed d " + bad, x.feed(1, 0, 0, 0, bad, 0), -2);
      Due.due("feed e " + bad, x.feed(1, 0, 0, 0, 0, bad), -2);
    }
    Due.due("count(5)", x.count(5), 0);
    Due.due("feed 2", x.feed(2, 0, 255, 9, 9, 9), 2);
    for (int i = 1; i <= 31; i++) Due.due("feed 5", x.feed(5, 32, 32, 32, 32, 32), 2 + 5 * i);
    Due.due("feed 4 of room 3", x.feed(4, 32, 32, 32, 32, 32), -4);
    Due.due("feed 4 of room 3, a bad one", x.feed(4, 32, 32, 32, 32, 256), -2);
    Due.due("count(5)", x.count(5), 157);
    Due.due("feed 3 of room 3", x.feed(3, 32, 32, 32, 32, 32), 160);
    Due.due("feed 1 of no room", x.feed(1, 32, 32, 32, 32, 32), -4);
    Due.due("text() of blanks behind a 0", x.text(), -100);
    Due.due("count(5)", x.count(5), 0);
    Due.feedAll(x, "first a;second b;says ");
    x.feed(5, 'i', 't', 'e', 'm', ';');
    Due.due("text() of bytes in order", x.text(), 1);
  }

  private static void fault(String text, int place) {
    FiftyOneCards x = new FiftyOneCards();
    Due.due("text '" + text + "'", Due.read(x, text), -100 - place);
    Due.due("then count(3)", x.count(3), 1);
    Due.due("then count(5)", x.count(5), 0);
  }

  private static void good(String text) {
    FiftyOneCards x = new FiftyOneCards();
    Due.due("text '" + text + "'", Due.read(x, text), 1);
    Due.due("then count(3)", x.count(3), 2);
    Due.due("then count(4)", x.count(4), 0);
    Due.due("then count(5)", x.count(5), 0);
  }

  private static void faults() {
    fault("", 0);
    fault("   ", 3);
    fault("a", 0);
    fault("first", 5);
    fault("first ", 6);
    fault("first a", 7);
    fault("first a \n", 9);
    fault("second a;", 0);
    fault("first ;", 6);
    fault("first a;second b;says", 21);
    fault("first a;second b;says a", 23);
    fault("first a;second b;says a; ;", 25);
    fault("first a;second b;says a;a", 24);
    fault("first a;second b;says a;\t", 24);
    fault("first a;says b;", 8);
    fault("firsta;", 0);
    fault("first A;", 6);
    fault("first a\r;", 7);
    fault("first \u00e9;", 6);
    fault("first ab;", 6);
    fault("first items;", 6);
    fault("first az;", 6);
    fault("first z;", 6);
    fault("first 12345;", 6);
    fault("first 00001;", 6);
    fault("first a 1;", 8);
    fault("first 1a;", 7);
    fault("first a b;", 8);
    fault("first first;", 6);
    fault("first a + ;", 10);
    fault("first a + + b;", 10);
    fault("first * a;", 6);
    fault("first a < b < n;", 12);
    fault("first a = b = n;", 12);
    fault("first a = b < n;", 12);
    fault("first a <= b;", 9);
    fault("first a + not b;", 10);
    fault("first a < not b;", 10);
    fault("first - not b;", 8);
    fault("first not;", 9);
    fault("first or a;", 6);
    fault("first a and;", 11);
    fault("first a and or b;", 12);
    fault("first ();", 7);
    fault("first (a;", 8);
    fault("first a);", 7);
    fault("first (a;second", 8);
    fault("first (a", 8);
    fault("first a > b;", 8);
    fault("first a ? 12345;", 8);
    fault("first a;second b;says a;12345", 24);
  }

  private static void goodTexts() {
    good("first a;second b;says a;");
    good("\n first\na ; second b;says a; \n");
    good("first(a);second(b);says(a);");
    good("first 0001;second 9999;says 0;");
    good("first not not a;second not(not a);says not a<b;");
    good("first a or b and n;second a-- -b;says -a*-b;");
    good("first a*(b or n)<(a=b);second(a<b)=(b<a);says 12*more+place-item;");
    good("first a and not b or not a and b;second 1-2-3;says a=b;");
    good("first 12or 3;second 1;says not(1)and 2;");
  }

  /** Five of ( , not, - may be open, the sixth is a fault; what is closed is open no more. */
  private static void openOnes() {
    good("first (((((a)))));second b;says a;");
    fault("first ((((((a))))));second b;says a;", 11);
    good("first not not not not not a;second b;says a;");
    fault("first not not not not not not a;", 26);
    good("first -----a;second b;says a;");
    fault("first ------a;", 11);
    good("first not(-(-a));second b;says a;");
    fault("first not(-(-(a)));", 13);
    good("first ((((-a))))+((((-b))));second b;says a;");
    fault("first (((((-a)))));", 11);
    good("first (((((a-b)))));second b;says a;");
    fault("first (((((not a)))));", 11);
    good("first -a-b;second (((((a)))))*(((((b)))));says not not not not not a and not not not not not b;");
    good("first not not not not not a<b or not a;second not a+(-b);says a;");
    fault("first not not not not not a+-b;", 28);
    good("first not not not not not a and -b;second b;says a;");
    good("first ----a*-----b;second b;says a;");
    good("first not not not not -a + -b;second b;says a;");
    fault("first not not not not --a;second b;says a;", 23);
    good("first (((((a))))) + (((((a)))));second (((((1)))));says ((((-1))));");
  }

  private static void fullTexts() {
    FiftyOneCards x = new FiftyOneCards();
    for (int i = 1; i <= 5; i++) Due.due("text", Due.read(x, "first a;second b;says " + i + ";"), i);
    Due.feedAll(x, "?");
    Due.due("text() when there are 6", x.text(), -4);
    Due.due("count(5)", x.count(5), 1);
    Due.due("count(3)", x.count(3), 6);
    Due.due("force(5)", x.force(5), 0);
    Due.due("asks(2, 0, 0, 0)", x.asks(2, 0, 0, 0), 5);
    FiftyOneCards y = new FiftyOneCards();
    Due.due("text() of 160 bytes", Due.read(y, "first a;second b;says 0" + "+1".repeat(68) + ";"), 1);
    y.force(1);
    Due.due("says of 160 bytes", y.asks(2, 0, 0, 0), 68);
  }

  /** What was read ahead of a fault is no part of the next text. */
  private static void afterFaults() {
    FiftyOneCards x = new FiftyOneCards();
    for (String bad : new String[] {"first a+a;", "first 1;second 2;says 3", "first 1;second 2;says 3;;", "first (1"}) {
      Due.due("a bad one", Due.read(x, bad), -100 - (bad.endsWith(";;") ? 24 : bad.length()));
    }
    Due.due("a good one", Due.read(x, "first 4;second 5;says 6;"), 1);
    x.force(1);
    for (int part = 0; part < 3; part++) Due.due("its value", x.asks(part, 0, 0, 0), 4 + part);
    String start = "first a;second b;says " + "(a)+".repeat(34);
    Due.due("a NAME that ends a full tape", Due.read(x, start + " a"), -100 - 160);
    Due.due("a WORD that is none ends it", Due.read(x, start + " c"), -100 - 159);
    Due.due("a NUMBER ends it", Due.read(x, start + "12"), -100 - 160);
    Due.due("too long a one", Due.read(x, "first 12345"), -100 - 6);
    Due.due("its last digit is gone", Due.read(x, "first 1234"), -100 - 10);
    Due.due("a WORD that is none", Due.read(x, "first itemb"), -100 - 6);
    Due.due("its last letter is gone", Due.read(x, "first item"), -100 - 10);
    Due.due("a ; ends it", Due.read(x, start + "a;"), 2);
  }

  private static void forces() {
    FiftyOneCards x = new FiftyOneCards();
    Due.due("force(1)", x.force(1), -2);
    Due.due("force(-1)", x.force(-1), -2);
    Due.due("force(0)", x.force(0), 0);
    Due.read(x, "first a;second b;says a;");
    Due.read(x, "first a;second b;says a");
    Due.due("force(1)", x.force(1), 0);
    Due.due("force(2)", x.force(2), -2);
    Due.due("count(4)", x.count(4), 1);
    Due.due("force(0)", x.force(0), 1);
  }

  private static void value(String expr, int want) {
    FiftyOneCards x = new FiftyOneCards();
    Due.read(x, "first " + expr + ";second 0-(" + expr + ");says 7+(" + expr + ");");
    Due.due("force(1) of " + expr, x.force(1), 0);
    // a 100, b 20, item 52, place 59, n 10, more 9
    Due.due(expr, x.asks(0, 100, 20, 52599), want);
    Due.due("0-(" + expr + ")", x.asks(1, 100, 20, 52599), -want);
    Due.due("7+(" + expr + ")", x.asks(2, 100, 20, 52599), Math.max(-1000000, Math.min(1000000, 7 + want)));
  }

  private static void values() {
    value("a", 100);
    value("b", 20);
    value("item", 52);
    value("place", 59);
    value("n", 10);
    value("more", 9);
    value("0042", 42);
    value("a-b-n", 70);
    value("a-(b-n)", 90);
    value("a+b*n", 300);
    value("(a+b)*n", 1200);
    value("-a*b", -2000);
    value("a--b", 120);
    value("a*-b", -2000);
    value("b<a", 1);
    value("a<b", 0);
    value("a<a", 0);
    value("a=a", 1);
    value("a=b", 0);
    value("-a<b", 1);
    value("a+1<b*6", 1);
    value("not a", 0);
    value("not 0", 1);
    value("not not a", 1);
    value("not a<b", 1);
    value("not b<a", 0);
    value("a or 0", 1);
    value("0 or 0", 0);
    value("a and b", 1);
    value("a and 0", 0);
    value("1 and 1", 1);
    value("0 and 1", 0);
    value("1 or 1", 1);
    value("0 or 1", 1);
    value("not 1", 0);
    value("1 or 0 and 0", 1);
    value("(1 or 0) and 0", 0);
    value("0 and 0 or 1", 1);
    value("not 1 or 1", 1);
    value("not 0 and 0", 0);
    value("a or b<n", 1);
    value("-1 and -1", 1);
    value("(a<b)+(b<a)+(a=100)", 2);
    // 2 to the 32nd is 0, and above 2 to the 31st stands what is below 0.
    value("(4096*4096*256+3)", 3);
    value("(0<4096*4096*128)", 0);
    value("(0<4096*4096*127)", 1);
  }

  private static void asked() {
    FiftyOneCards x = new FiftyOneCards();
    Due.due("asks(3, ..)", x.asks(3, 0, 0, 0), -2);
    Due.due("asks(-1, ..)", x.asks(-1, 0, 0, 0), -2);
    Due.due("asks a", x.asks(0, -1, 0, 0), -2);
    Due.due("asks a", x.asks(0, 65536, 0, 0), -2);
    Due.due("asks b", x.asks(0, 0, -1, 0), -2);
    Due.due("asks b", x.asks(0, 0, 65536, 0), -2);
    Due.due("asks item 53", x.asks(0, 0, 0, 53000), -2);
    Due.due("asks place 60", x.asks(0, 0, 0, 600), -2);
    Due.due("asks place 99", x.asks(0, 0, 0, 1999), -2);
    Due.due("asks -1", x.asks(0, 0, 0, -1), -2);
    Due.due("asks least", x.asks(0, 0, 0, Integer.MIN_VALUE), -2);
    Due.due("asks most", x.asks(0, 0, 0, Integer.MAX_VALUE), -2);
    Due.due("first of text 0", x.asks(0, 65535, 0, 52599), 65483);
    Due.due("second of text 0", x.asks(1, 0, 65535, 0), 65536);
    Due.due("says of text 0", x.asks(2, 65535, 9, 0), 65535);
    Due.read(x, "first a*b;second 0-a*b;says item*100+place+n;");
    x.force(1);
    Due.due("at the bound", x.asks(0, 1000, 1000, 0), 1000000);
    Due.due("above", x.asks(0, 1000, 1001, 0), 1000000);
    Due.due("below", x.asks(1, 1001, 1000, 0), -1000000);
    Due.due("within", x.asks(1, 999, 1000, 0), -999000);
    Due.due("item, place of says are those of the call", x.asks(2, 0, 0, 7123), 722);
    x.deal(52);
    Due.due("n is the pack's", x.asks(2, 0, 0, 7123), 764);
    x.card(1);
    Due.due("also with a row", x.asks(2, 0, 0, 7123), 764);
  }

  private static void heads() {
    FiftyOneCards x = new FiftyOneCards();
    int[][] bad = {{-1, 1, 0}, {60, 1, 0}, {0, 0, 0}, {0, 17, 0}, {0, 1, -1}, {0, 1, 65536}};
    for (int[] b : bad) Due.due("head(" + b[0] + ", " + b[1] + ", " + b[2] + ")", x.head(b[0], b[1], b[2]), -2);
    Due.due("count(0)", x.count(0), 0);
    Due.due("head(0, 1, 0)", x.head(0, 1, 0), 0);
    Due.due("head(59, 16, 65535)", x.head(59, 16, 65535), 1);
    Due.due("head(37, 4, 99)", x.head(37, 4, 99), 2);
    Due.due("head(20, 5, 1)", x.head(20, 5, 1), 3);
    Due.due("head(48, 6, 2)", x.head(48, 6, 2), 4);
    Due.due("a sixth", x.head(0, 1, 0), -4);
    Due.due("a bad sixth", x.head(0, 0, 0), -2);
    int[][] told = {{0, 0, 1, 0, 0}, {5, 9, 16, 65535, 0}, {3, 7, 4, 99, 0}, {2, 0, 5, 1, 0}, {4, 8, 6, 2, 0}};
    for (int h = 0; h < 5; h++) {
      for (int w = 0; w < 5; w++) Due.due("told(" + h + ", " + w + ")", x.told(h, w), told[h][w]);
      Due.due("told what", x.told(h, 5), -7);
      Due.due("told what", x.told(h, -1), -7);
    }
    Due.due("told(5, 0)", x.told(5, 0), -5);
    Due.due("told(-1, 9)", x.told(-1, 9), -5);
  }

  private static void sets() {
    FiftyOneCards x = new FiftyOneCards();
    x.head(0, 4, 99);
    Due.due("set(1, 0, 1)", x.set(1, 0, 1), -5);
    Due.due("set(-1, 9, 1)", x.set(-1, 9, 1), -5);
    int[][] bad = {{-1, 1}, {3, 1}, {0, 0}, {0, 17}, {1, -1}, {1, 65536}, {2, -1}, {2, 65536}};
    for (int[] b : bad) Due.due("set(0, " + b[0] + ", " + b[1] + ")", x.set(0, b[0], b[1]), -7);
    Due.due("set(0, 0, 16)", x.set(0, 0, 16), 4);
    Due.due("set(0, 0, 1)", x.set(0, 0, 1), 16);
    Due.due("set(0, 1, 65535)", x.set(0, 1, 65535), 99);
    Due.due("set(0, 1, 0)", x.set(0, 1, 0), 65535);
    Due.due("set(0, 2, 65535)", x.set(0, 2, 65535), 0);
    Due.due("set(0, 2, 7)", x.set(0, 2, 7), 65535);
    Due.due("told bits", x.told(0, 2), 1);
    Due.due("told first", x.told(0, 3), 0);
    Due.due("told second", x.told(0, 4), 7);
  }

  public static void main(String[] args) {
    feeds();
    faults();
    goodTexts();
    openOnes();
    fullTexts();
    afterFaults();
    forces();
    values();
    asked();
    heads();
    sets();
    Due.end("LawAndHeadsTest");
  }
}
