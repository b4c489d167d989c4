/** Edges of promises 29 to 43, and of the terms DRAWN, LOTS, AN IMAGE, SHEETS, REFUSALS. */
public final class SayingsAndHostEdgesTest {
  private static final String COUNT = "law first a+1;second b;says a;";
  private static final String DIGITS = "law first a*10+item;second b;says a;";
  private static final String BOTH = "law first a;second b;says 1000*a+b;";
  private static final String THAT = "law first a;second b;says a;";
  private static final String MINUS = "law first a;second b;says -a;";
  /** Of 10: HEAD 0 right of all, HEAD 1 of the first seven, HEAD 2 says 1 less. */
  private static final String THREE = "head(0, 8, 55);head(0, 3, 55);head(0, 16, 54)";
  /** SHEETS 0 of three ints, 1 of two shorts, 2 of four bytes, 3 missing; two HEADS, a PACK of 12. */
  private static final String[] SOME = Edges.steps("deal(12)", "head(13, 7, 78)", "head(25, 16, 65535)", "set(1, 2, 500)",
      "law first a+item;second b-place;says a*2+b;", "row 3 12 3 7", "image()", "card(2)", "ints 0: 9 8 7", "shorts 1: 5 6",
      "bytes 2: 4 3 2 1", "tape first 12");
  /** As SOME, but of a PACK of one CARD, so that each SHEET tells more. */
  private static final String[] TOO_MUCH = Edges.steps("head(13, 7, 78)", "ints 0: 9 8 7", "shorts 1: 5 6", "bytes 2: 4 3 2 1", "deal(1)");
  private static final String[] NO_HEADS = Edges.steps("ints 0: 9 8 7", "row 4 5");
  private static final String[] FULL = Edges.steps("deal(9)", "times 60: card(9)", "ints 0: 1 2 3", "times 5: head(31, 4, 5)");

  private static void edge(String promise, String sentence, String... steps) { Edges.edge(promise, sentence, steps); }

  /** An edge with the three HEADS of above. */
  private static void three(String promise, String sentence, String... steps) {
    String[] heads = THREE.split(";");
    String[] all = new String[heads.length + steps.length];
    System.arraycopy(heads, 0, all, 0, heads.length);
    System.arraycopy(steps, 0, all, heads.length, steps.length);
    Edges.edge(promise, sentence, all);
  }

  /** What judge and its like refuse alike: % stands for the SHEET, # for the HEAD. */
  private static void likewise(String promise, String call, boolean ofHead, boolean ofMore) {
    String good = call.replace("#", "0");
    Edges.outside(promise, "SHEET", SOME, good.replace("%", "#"), "-2", -1, 4);
    Edges.still(promise, "-11: SHEET 3 is missing", SOME, good.replace("%", "3") + " = -11");
    Edges.still(promise, "-11: SHEET 0 is missing again", Edges.steps("head(0, 8, 55)", "ints 0: 4", "sheet(0, -1, 0)"),
        good.replace("%", "0") + " = -11");
    for (int s = 0; s <= 2; s++) Edges.still(promise, "BAD: SHEET " + s + " tells more", TOO_MUCH, good.replace("%", "" + s) + " = -2");
    if (ofHead) {
      Edges.outside(promise, "no such HEAD of two: h", SOME, call.replace("%", "0"), "-5", -1, 2);
      Edges.outside(promise, "no such HEAD of five: h", FULL, call.replace("%", "0"), "-5", -1, 5);
      Edges.outside(promise, "no such HEAD of none: h", NO_HEADS, call.replace("%", "0"), "-5", -1, 0);
      String none = call.replace("#", "2");
      Edges.still(promise, "BAD: SHEET ahead of -5", SOME, none.replace("%", "4") + " = -2", none.replace("%", "-1") + " = -2");
      Edges.still(promise, "-11 ahead of -5", SOME, none.replace("%", "3") + " = -11");
      Edges.still(promise, "BAD: it tells more, ahead of -5", TOO_MUCH, none.replace("%", "0") + " = -2");
    }
    if (ofMore) {
      String bad = good.substring(0, good.lastIndexOf(',')) + ", -1)";
      Edges.still(promise, "BAD: SHEET ahead of -7", SOME, bad.replace("%", "4") + " = -2");
      Edges.still(promise, "-11 ahead of -7", SOME, bad.replace("%", "3") + " = -11");
      Edges.still(promise, "BAD: it tells more, ahead of -7", TOO_MUCH, bad.replace("%", "0") + " = -2");
      Edges.still(promise, "-5 ahead of -7", SOME, bad.replace("%", "0").replace(" 0,", " 2,") + " = -5");
    }
  }

  private static void judges() {
    three("29 judge", "none is otherwise: -1", "ints 0: 1 2 3 4 5 6 7 8 9 10", "judge(0, 0) = -1");
    three("29 judge", "the first is: 0", "ints 0: 2 2 3 4 5 6 7 8 9 10", "judge(0, 0) = 0", "judge(0, 2) = 0");
    three("29 judge", "the last alone is", "ints 0: 1 2 3 4 5 6 7 8 9 11", "judge(0, 0) = 9");
    three("29 judge", "the first of several", "ints 0: 1 2 0 4 0 6 7 8 9 0", "judge(0, 0) = 2", "ints 1: 1 2 3 4 5 6 7 8 9 10", "judge(1, 1) = 7");
    three("29 judge", "it tells nothing: -1", "sheet(0, 0, 0)", "judge(0, 2) = -1");
    three("29 judge", "it tells of one", "bytes 0: 1", "judge(0, 0) = -1", "judge(0, 2) = 0");
    edge("29 judge", "as many as THE PACK has, and 1 more", "deal(3)", "head(0, 8, 6)", "ints 0: 1 2 3", "judge(0, 0) = -1", "ints 0: 1 2 3 4",
        "judge(0, 0) = -2", "deal(4)", "set(0, 1, 10)", "judge(0, 0) = -1");
    edge("29 judge", "40 of 40, of 39", "deal(40)", "head(0, 16, 820)", "film(0, 0, 40)", "judge(0, 0) = -1", "deal(39)", "judge(0, 0) = -2");
    edge("29 judge", "40 of 52", "deal(52)", "head(0, 16, 1378)", "film(0, 0, 40)", "judge(0, 0) = -1");
    edge("29 judge", "BUT CARD 1, BUT CARD 2, ..: way 0", "deal(3)", DIGITS, "head(0, 16, 0)", "ints 0: 23 13 12", "judge(0, 0) = -1",
        "ints 0: 32 31 21", "judge(0, 0) = 0", "ints 0: 23 31 12", "judge(0, 0) = 1");
    edge("29 judge", "of one CARD: BUT it nothing goes by", "deal(1)", "head(0, 8, 9)", "ints 0: 9", "judge(0, 0) = -1");
    edge("29 judge", "at the bounds", "law first a;second b;says 1000*a*(b*2-1);", "deal(1)", "head(0, 16, 60000)", "ints 0: -1000000", "judge(0, 0) = -1",
        "set(0, 2, 1)", "judge(0, 0) = 0", "ints 0: 1000000", "judge(0, 0) = -1");
    edge("29 judge", "THE ROW does not matter", "head(0, 8, 55)", "row 5 5 5", "ints 0: 1 2 3", "judge(0, 0) = -1", "isrow 5 5 5");
    likewise("29 judge", "judge(%, #)", true, false);
    Edges.still("29 judge", "-5, though it tells nothing", Edges.steps("sheet(0, 1, 0)", "head(0, 4, 4)"), "judge(0, 1) = -5");
  }

  private static void kindsBy() {
    // Two of three CARDS go by: seen once by a SLOW, a DOZING of MORE 0, kept as 0 by a ROUNDING, seen four times by an AGAIN.
    String[][] told = {{"2 2 2", "5"}, {"1 1 1", "10"}, {"0 0 0", "16"}, {"4 4 4", "32"}, {"3 3 3", "0"}};
    for (String[] t : told) {
      edge("30 kinds", "sort 0, told " + t[0], "deal(3)", COUNT, "head(0, 16, 0)", "ints 0: " + t[0], "kinds(0, 0, 0) = " + t[1]);
    }
    edge("30 kinds", "sort 0, told nothing: all KINDS", "head(0, 16, 0)", "sheet(0, 0, 0)", "kinds(0, 0, 0) = 63");
    edge("30 kinds", "sort 0 tells a SLOW from a DOZING of its MORE", "deal(3)", COUNT, "head(4, 16, 0)", "ints 0: 2 2 2", "kinds(0, 0, 0) = 7",
        "ints 0: 1 1 1", "kinds(0, 0, 0) = 8");
    // A SLOW does not see one of each MORE and 2.
    String[][] more = {{"12", "6", "1"}, {"12", "8", "2"}, {"12", "9", "12"}, {"12", "10", "1008"}, {"12", "11", "0"}, {"11", "10", "512"}};
    for (String[] m : more) {
      edge("30 kinds", "sort 1, BUT 1 of " + m[0] + " a SLOW sees " + m[1], "deal(" + m[0] + ")", COUNT, "head(10, 16, 0)", "ints 0: " + m[1],
          "kinds(0, 0, 1) = " + m[2]);
    }
    edge("30 kinds", "sort 1, told nothing: MORE 0 .. 9", "head(0, 16, 0)", "sheet(0, 0, 0)", "kinds(0, 0, 1) = 1023");
    edge("30 kinds", "sort 2: BITS 1 is bit 1", THAT, "head(0, 7, 65535)", "ints 0: 1", "kinds(0, 0, 2) = 2");
    edge("30 kinds", "sort 2: BITS 16 is bit 16", THAT, "head(0, 7, 65535)", "ints 0: 65535", "kinds(0, 0, 2) = 65536");
    edge("30 kinds", "sort 2: no BITS", THAT, "head(0, 7, 65535)", "ints 0: 0", "kinds(0, 0, 2) = 0", "ints 0: 131071", "kinds(0, 0, 2) = 0");
    edge("30 kinds", "sort 2, told nothing: BITS 1 .. 16", "head(0, 16, 0)", "sheet(0, 0, 0)", "kinds(0, 0, 2) = 131070");
    edge("30 kinds", "its own KIND, MORE, BITS don't matter", "deal(3)", COUNT, "head(59, 16, 0)", "ints 0: 2 2 2", "kinds(0, 0, 0) = 7", "head(33, 16, 0)",
        "kinds(0, 1, 1) = 6", "head(0, 1, 0)", "kinds(0, 2, 2) = 131068");
    likewise("30 kinds", "kinds(%, #, 0)", true, true);
    likewise("30 kinds", "kinds(%, #, 1)", true, true);
    likewise("30 kinds", "kinds(%, #, 2)", true, true);
    Edges.outside("30 kinds", "sort", SOME, "kinds(0, 1, #)", "-7", -1, 3);
  }

  private static void beginsBy() {
    String[][] told = {{"16", "0", "1", "0"}, {"16", "200", "1", "200"}, {"16", "201", "0", "-1"}, {"16", "-1", "0", "-1"}, {"7", "72", "2", "72"},
        {"7", "73", "1", "73"}, {"1", "1", "100", "1"}, {"1", "0", "101", "0"}, {"8", "200", "1", "200"}};
    for (String[] t : told) {
      edge("31 begins", "of " + t[0] + " BITS, told " + t[1], "deal(1)", "head(0, " + t[0] + ", 300)", "ints 0: " + t[1],
          "begins(0, 0, 0) = " + t[2], "begins(0, 0, 1) = " + t[3]);
    }
    edge("31 begins", "told nothing: all of 0 .. 200", "head(0, 16, 9)", "sheet(0, 1, 0)", "begins(0, 0, 0) = 201", "begins(0, 0, 1) = 0");
    edge("31 begins", "SECOND is its own, FIRST stays", "law first a;second b;says a+b;", "deal(1)", "head(0, 16, 9)", "set(0, 2, 100)", "ints 0: 130",
        "begins(0, 0, 1) = 30", "told(0, 3) = 9");
    likewise("31 begins", "begins(%, #, 0)", true, true);
    likewise("31 begins", "begins(%, #, 1)", true, true);
    Edges.outside("31 begins", "what", SOME, "begins(0, 1, #)", "-7", -1, 2);
  }

  private static void lawsBy() {
    edge("32 laws", "TEXT 0 alone", "head(0, 8, 55)", "ints 0: 1 2 3", "laws(0, 0) = 1");
    edge("32 laws", "none", "head(0, 8, 54)", "ints 0: 1 2 3", "laws(0, 0) = 0");
    edge("32 laws", "TEXT 5 is bit 5", "head(0, 8, 55)", "times 4: read first a;second b;says a;", "read first a;second b;says -1; = 5", "ints 0: -1 -1",
        "laws(0, 0) = 32");
    edge("32 laws", "told nothing: all six", "head(0, 8, 55)", "times 5: read first a;second b;says a;", "sheet(0, 0, 0)", "laws(0, 0) = 63");
    edge("32 laws", "THE LAW does not matter, and stays", "head(0, 8, 55)", "law first a;second b;says 1;", "ints 0: 1 2", "laws(0, 0) = 1",
        "count(4) = 1", "ints 0: 1", "laws(0, 0) = 3", "force(0)", "laws(0, 0) = 3", "count(4) = 0");
    likewise("32 laws", "laws(%, #)", true, false);
  }

  private static void whoseBy() {
    three("33 whose", "HEAD 0 alone", "ints 0: 1 2 3 4 5 6 7 8 9 10", "whose(0) = 1");
    three("33 whose", "two of them", "ints 0: 1 2 3 4 5 6 7", "whose(0) = 3");
    three("33 whose", "none", "ints 0: 5", "whose(0) = 0");
    three("33 whose", "told nothing: all", "sheet(0, 0, 0)", "whose(0) = 7");
    edge("33 whose", "HEAD 4 is bit 4", "times 4: head(0, 8, 54)", "head(0, 8, 55)", "ints 0: 1 2", "whose(0) = 16", "sheet(0, 0, 0)", "whose(0) = 31");
    edge("33 whose", "there are no HEADS", "ints 0: 1 2", "whose(0) = 0", "sheet(0, 0, 0)", "whose(0) = 0");
    likewise("33 whose", "whose(%)", false, false);
    Edges.still("33 whose", "BAD: it tells more, there are no HEADS", Edges.steps("ints 0: 1 2", "deal(1)"), "whose(0) = -2");
  }

  private static void films() {
    three("34 film", "n 0: a row of none", "film(0, 0, 0) = 0", "cell(0, 0, 1) = -12", "judge(0, 2) = -1");
    three("34 film", "n 1", "film(0, 0, 1) = 1", "cell(0, 1, 1) = -12", "cardsBy(0, 2, 0, 1) = 1", "isrow 1");
    three("34 film", "n as many as THE PACK has", "film(0, 0, 10) = 10", "cell(0, 10, 1) = -12", "cardsBy(0, 2, 0, 10) = 10", "isrow 1 2 3 4 5 6 7 8 9 10");
    edge("34 film", "n 40, the greatest, of 52 and of 40", "deal(52)", "head(0, 16, 1378)", "film(0, 0, 40) = 40", "cell(0, 39, 40) = 1",
        "cell(0, 40, 1) = -12", "judge(0, 0) = -1", "deal(40)", "set(0, 1, 820)", "film(1, 0, 40) = 40", "judge(1, 0) = -1");
    three("34 film", "ints, whatever it was", "bytes 0: 7 7 7 7", "film(0, 2, 2) = 2", "cell(0, 2, 0) = -12", "cardsBy(0, 0, 0, 1) = -13",
        "cardsBy(0, 2, 0, 2) = 1", "isrow 1");
    edge("34 film", "BUT (way 0) CARD 1, BUT CARD 2, ..", "deal(3)", DIGITS, "head(0, 16, 0)", "film(3, 0, 3) = 3", "deal(52)", "cardsBy(3, 2, 0, 3) = 3",
        "isrow 23 13 12");
    edge("34 film", "what a byte, a short can't hold", BOTH, "head(0, 16, 60000)", "film(0, 0, 1) = 1", "judge(0, 0) = -1", "ints 0: 1000000", "judge(0, 0) = -1");
    Edges.outside("34 film", "SHEET", SOME, "film(#, 0, 2)", "-2", -1, 4);
    Edges.outside("34 film", "no such HEAD of two: h", SOME, "film(0, #, 2)", "-5", -1, 2);
    Edges.outside("34 film", "no such HEAD of five: h", FULL, "film(0, #, 2)", "-5", -1, 5);
    Edges.outside("34 film", "no such HEAD of none: h", NO_HEADS, "film(0, #, 2)", "-5", -1, 0);
    Edges.outside("34 film", "n of a PACK of 12:", SOME, "film(0, 1, #)", "-7", -1, 13);
    Edges.outside("34 film", "n of a PACK of 52:", Edges.steps("deal(52)", "head(0, 4, 4)", "ints 0: 5"), "film(0, 0, #)", "-7", -1, 41, 52, 53);
    Edges.outside("34 film", "n of a PACK of 39:", Edges.steps("deal(39)", "head(0, 4, 4)"), "film(0, 0, #)", "-7", -1, 40);
    Edges.still("34 film", "BAD ahead of -5 and -7", SOME, "film(4, 2, 2) = -2", "film(4, 0, 13) = -2", "film(-1, 2, -1) = -2");
    Edges.still("34 film", "-5 ahead of -7", SOME, "film(0, 2, 13) = -5", "film(3, -1, -1) = -5");
  }

  private static void draws() {
    // 48271, 182605794, 1291394886 are the LOTS of SEED 0; 532132706, 525949559, 559487655, 274249833 of 99999.
    edge("LOTS", "SEED 0: the first modulo n, and 1", "head(0, 16, 9)", "drawn(0, 0, 0) = 2", "deal(4)", "drawn(0, 0, 0) = 4", "deal(52)", "drawn(0, 0, 0) = 16");
    edge("LOTS", "SEED 99999: the first modulo n, and 1", "head(0, 16, 9)", "drawn(99999, 0, 0) = 7", "deal(4)", "drawn(99999, 0, 0) = 3", "deal(52)",
        "drawn(99999, 0, 0) = 15");
    edge("DRAWN", "of one CARD: nothing is left", "deal(1)", "head(0, 16, 9)", "drawn(0, 0, 0) = 1", "drawn(99999, 0, 0) = 1", "drawn(0, 0, 1) = 9");
    edge("DRAWN", "of two: one PLACE, none changes", "deal(2)", DIGITS, "head(0, 16, 0)", "drawn(0, 0, 0) = 2", "drawn(0, 0, 1) = 1", "drawn(1, 0, 1) = 2");
    edge("DRAWN", "of three: PLACE 1 changes", "deal(3)", DIGITS, "head(0, 16, 0)", "drawn(0, 0, 0) = 2", "drawn(0, 0, 1) = 31", "drawn(1, 0, 1) = 21",
        "drawn(99999, 0, 1) = 12");
    edge("DRAWN", "of four: from the last PLACE down to 1", "deal(4)", DIGITS, "head(0, 16, 0)", "drawn(0, 0, 1) = 231", "drawn(1, 0, 1) = 421",
        "drawn(99999, 0, 1) = 124");
    edge("DRAWN", "of five", "deal(5)", DIGITS, "head(0, 16, 0)", "drawn(0, 0, 1) = 5314", "drawn(1, 0, 1) = 5241", "drawn(99999, 0, 1) = 4315");
    edge("DRAWN", "of 52: PLACES 0, 25, 50 by SEED 0", "deal(52)", "head(0, 16, 0)", "law first a+(place=0)*item;second b;says a;", "drawn(0, 0, 1) = 9",
        "law first a+(place=25)*item;second b;says a;", "drawn(0, 0, 1) = 28", "law first a+(place=50)*item;second b;says a;", "drawn(0, 0, 1) = 41",
        "law first a+item;second b;says a-1378;", "drawn(0, 0, 1) = -16");
    edge("35 drawn", "SEED 0 and 99999, the least and the greatest", "head(0, 8, 55)", "drawn(0, 0, 0) = 2", "drawn(0, 0, 1) = 2", "drawn(99999, 0, 0) = 7",
        "drawn(99999, 0, 1) = 7");
    edge("35 drawn", "what 1: what a HEAD SAYS, be it wrong", "head(0, 8, 54)", "head(0, 8, 56)", "drawn(0, 0, 1) = 1", "drawn(0, 1, 1) = 3");
    edge("35 drawn", "THE ROW does not matter, and stays", "head(0, 8, 55)", "row 4 4 4", "drawn(0, 0, 1) = 2", "isrow 4 4 4");
    edge("35 drawn", "the same SEED draws the same", "head(0, 8, 55)", "drawn(7, 0, 0) = 9", "drawn(8, 0, 0)", "drawn(7, 0, 0) = 9");
    Edges.outside("35 drawn", "no such HEAD of two: h", SOME, "drawn(7, #, 0)", "-1000005", -1, 2);
    Edges.outside("35 drawn", "no such HEAD of five: h", FULL, "drawn(7, #, 1)", "-1000005", -1, 5);
    Edges.outside("35 drawn", "no such HEAD of none: h", NO_HEADS, "drawn(7, #, 0)", "-1000005", -1, 0);
    Edges.outside("35 drawn", "SEED", SOME, "drawn(#, 1, 0)", "-1000007", -1, 100000);
    Edges.outside("35 drawn", "SEED, what 1,", SOME, "drawn(#, 1, 1)", "-1000007", -1, 100000);
    Edges.outside("35 drawn", "what", SOME, "drawn(7, 1, #)", "-1000007", -1, 2);
    Edges.still("35 drawn", "-1000005 ahead of -1000007", SOME, "drawn(-1, 2, 0) = -1000005", "drawn(100000, 2, 0) = -1000005", "drawn(7, 2, 2) = -1000005");
  }

  private static void oddsOf() {
    three("36 odds", "one seed, the least: of it", "odds(0, 1, 0, 0) = 1", "odds(0, 1, 0, 1) = 1", "odds(0, 1, 2, 0) = 0", "odds(0, 1, 2, 1) = 1");
    three("36 odds", "30 seeds, the greatest, lowest terms", "odds(0, 30, 1, 0) = 7", "odds(0, 30, 1, 1) = 10");
    three("36 odds", "none of 30: 0 and 1", "odds(0, 30, 2, 0) = 0", "odds(0, 30, 2, 1) = 1");
    three("36 odds", "all of 30: 1 and 1", "odds(0, 30, 0, 0) = 1", "odds(0, 30, 0, 1) = 1");
    three("36 odds", "9 of 12, 6 of 9, 14 of 20 in lowest terms", "odds(3, 12, 1, 0) = 3", "odds(3, 12, 1, 1) = 4", "odds(5, 9, 1, 0) = 2", "odds(5, 9, 1, 1) = 3",
        "odds(0, 20, 1, 0) = 7", "odds(0, 20, 1, 1) = 10");
    // BUT 15 by SEED 99999, BUT 30 by 100000, BUT 34 by 100028 alone of these.
    edge("36 odds", "seeds may pass 99999: two", "deal(52)", THAT, "head(0, 16, 30)", "odds(99999, 2, 0, 0) = 1", "odds(99999, 2, 0, 1) = 2",
        "odds(99999, 1, 0, 0) = 0");
    edge("36 odds", "seeds may pass 99999: thirty", "deal(52)", THAT, "head(0, 16, 34)", "odds(99999, 30, 0, 0) = 1", "odds(99999, 30, 0, 1) = 30",
        "odds(99999, 29, 0, 0) = 0");
    edge("36 odds", "of one CARD", "deal(1)", "head(0, 16, 1)", "odds(0, 30, 0, 0) = 1", "odds(0, 30, 0, 1) = 1");
    for (int part = 0; part <= 1; part++) {
      Edges.outside("36 odds", "part " + part + ", SEED", SOME, "odds(#, 3, 1, " + part + ")", "NO", -1, 100000);
      Edges.outside("36 odds", "part " + part + ", seeds", SOME, "odds(7, #, 1, " + part + ")", "NO", 0, 31, -1);
      Edges.outside("36 odds", "part " + part + ", no such HEAD of two: h", SOME, "odds(7, 3, #, " + part + ")", "NO", -1, 2);
      Edges.outside("36 odds", "part " + part + ", no such HEAD of none: h", NO_HEADS, "odds(7, 3, #, " + part + ")", "NO", -1, 0);
    }
    Edges.outside("36 odds", "part", SOME, "odds(7, 3, 1, #)", "NO", -1, 2);
    edge("36 odds", "30 seeds from 99999 on are no wrong numbers", "head(0, 8, 55)", "odds(99999, 30, 0, 1) = 1");
  }

  private static void images() {
    edge("37 image", "of no HEADS: 0", "image() = 0", "back() = 0");
    edge("37 image", "of five HEADS: 5", "times 5: head(0, 1, 0)", "image() = 5", "back() = 5");
    edge("37 image", "a second one in place of the first", "image() = 0", "head(0, 1, 0)", "deal(7)", "image() = 1", "deal(9)", "back() = 1", "count(1) = 7");
    edge("37 image", "it is kept, whatever changes then", "head(0, 4, 5)", "row 7 8", "image()", "set(0, 1, 9)", "turn(0)", "card(1)", "back()", "told(0, 3) = 5",
        "isrow 7 8");
    Edges.still("37 image", "it changes nothing else", Edges.steps("head(0, 4, 5)", "row 7 8", "ints 0: 4", "tape first 12", "image()"), "image() = 1");
    edge("38 back", "STATE: there is none", "back() = -3", "image()", "back() = 0");
    Edges.still("38 back", "STATE changes nothing", Edges.steps("deal(12)", "head(13, 7, 78)", "row 3 12", "ints 0: 9", "tape first 12"), "back() = -3");
    edge("AN IMAGE", "keeps THE PACK", "deal(52)", "image()", "deal(1)", "back()", "count(1) = 52", "card(52) = 1");
    edge("AN IMAGE", "keeps THE ROW: sixty", "times 59: card(1)", "card(10)", "image()", "deal(9)", "fill(-1, 0)", "back()", "count(2) = 60", "at(59) = 10",
        "at(0) = 1", "card(1) = -4");
    edge("AN IMAGE", "keeps THE ROW: none", "image()", "card(3)", "back()", "isrow", "turn(0) = -1");
    edge("AN IMAGE", "keeps BITS, FIRST, SECOND of all HEADS", "times 5: head(0, 4, 5)", "set(4, 2, 6)", "set(0, 2, 7)", "image()", "set(0, 0, 16)",
        "set(0, 1, 65535)", "set(0, 2, 65535)", "set(4, 0, 16)", "set(4, 1, 65535)", "set(4, 2, 65535)", "back() = 5", "told(0, 2) = 4", "told(0, 3) = 5",
        "told(0, 4) = 7", "told(4, 2) = 4", "told(4, 3) = 5", "told(4, 4) = 6");
    edge("AN IMAGE", "keeps how many HEADS there are", "head(0, 4, 5)", "image()", "head(0, 4, 5)", "back() = 1", "count(0) = 1", "told(1, 0) = -5");
    edge("AN IMAGE", "keeps THE LAW", "law first a;second b;says 9;", "image()", "force(0)", "back()", "count(4) = 1", "image()", "law first a;second b;says 8;",
        "back()", "count(4) = 1", "asks(2, 0, 0, 0) = 9");
    edge("AN IMAGE", "keeps no TEXTS: those that came since stay", "image()", "law first a;second b;says 9;", "back()", "count(3) = 2", "count(4) = 0", "force(1) = 0",
        "asks(2, 0, 0, 0) = 9");
    edge("AN IMAGE", "keeps no TAPE", "tape first", "image()", "tape  3;second b;says a;", "back()", "count(5) = 24", "text() = 1");
    edge("AN IMAGE", "keeps no SHEETS", "ints 0: 5", "image()", "cell(0, 0, 6)", "bytes 1: 7", "back()", "cardsBy(0, 2, 0, 1) = 1", "cardsBy(1, 0, 0, 1) = 1",
        "isrow 6 7");
    edge("38 back", "HEADS that came since are none, new ones take their numbers", "head(0, 4, 5)", "image()", "head(29, 7, 8)", "set(1, 2, 9)", "back() = 1",
        "say(1) = -1000005", "head(11, 3, 2) = 1", "told(1, 0) = 1", "told(1, 1) = 1", "told(1, 2) = 3", "told(1, 3) = 2", "told(1, 4) = 0");
    edge("38 back", "there is room for HEADS again", "image()", "times 5: head(0, 4, 5)", "head(0, 4, 5) = -4", "back() = 0", "times 5: head(0, 4, 5)",
        "head(0, 4, 5) = -4");
    edge("38 back", "again and again", "row 7", "image()", "card(8)", "back()", "isrow 7", "card(9)", "back()", "isrow 7");
  }

  private static void sheets() {
    for (int s = 0; s <= 3; s++) {
      edge("SHEETS", "SHEET " + s + " is missing at first", "cell(" + s + ", 0, 1) = -11", "cardsBy(" + s + ", 0, 0, 0) = -11", "whose(" + s + ") = -11");
      for (int sort = 0; sort <= 2; sort++) {
        edge("39 sheet", "SHEET " + s + " of sort " + sort + ": n 0, the least", "sheet(" + s + ", " + sort + ", 0) = 1", "cell(" + s + ", 0, 1) = -12",
            "cardsBy(" + s + ", " + sort + ", 0, 0) = 0");
        edge("39 sheet", "SHEET " + s + " of sort " + sort + ": n 40, the greatest", "sheet(" + s + ", " + sort + ", 40) = 1", "cell(" + s + ", 39, 1) = 1",
            "cell(" + s + ", 40, 1) = -12", "cardsBy(" + s + ", " + sort + ", 0, 40) = 1");
      }
      edge("39 sheet", "SHEET " + s + " alone", "sheet(" + s + ", 2, 3) = 1", "cell(" + (s + 1) % 4 + ", 0, 1) = -11", "cell(" + (s + 3) % 4 + ", 0, 1) = -11");
    }
    edge("39 sheet", "all 0, whatever it was", "ints 0: 5 6 7", "sheet(0, 2, 3) = 1", "cardsBy(0, 2, 0, 3) = 0", "deal(1)", "head(0, 4, 0)",
        "sheet(0, 2, 1) = 1", "judge(0, 0) = -1");
    edge("39 sheet", "all 0 behind its end of now, too", "ints 0: 5 6 7", "sheet(0, 2, 1)", "sheet(0, 2, 3)", "cardsBy(0, 2, 0, 3) = 0");
    edge("39 sheet", "of another sort", "ints 0: 5 6 7", "sheet(0, 0, 2) = 1", "cardsBy(0, 2, 0, 1) = -13", "cell(0, 2, 1) = -12");
    for (int n : new int[] {0, 1, 40, 41, -1, Integer.MIN_VALUE, Integer.MAX_VALUE}) {
      edge("39 sheet", "sort -1: missing, n " + n + " does not matter", "ints 0: 5 6", "sheet(0, -1, " + n + ") = 1", "cell(0, 0, 1) = -11",
          "sheet(0, -1, " + n + ") = 1");
    }
    Edges.outside("39 sheet", "SHEET", SOME, "sheet(#, 2, 3)", "-2", -1, 4);
    Edges.outside("39 sheet", "SHEET, sort -1,", SOME, "sheet(#, -1, 3)", "-2", -1, 4);
    Edges.outside("39 sheet", "sort", SOME, "sheet(0, #, 3)", "-2", -2, 3);
    for (int sort = 0; sort <= 2; sort++) {
      for (int n : new int[] {41, Integer.MAX_VALUE}) {
        Edges.still("39 sheet", "sort " + sort + ", n " + n + " is BAD", SOME, "sheet(0, " + sort + ", " + n + ") = -2", "sheet(3, " + sort + ", " + n + ") = -2");
      }
      for (int n : new int[] {-1, Integer.MIN_VALUE}) {
        Edges.still("39 sheet", "sort " + sort + ", n " + n + " is -14", SOME, "sheet(0, " + sort + ", " + n + ") = -14",
            "sheet(3, " + sort + ", " + n + ") = -14");
      }
    }
    Edges.still("39 sheet", "BAD ahead of -14", SOME, "sheet(4, 0, -1) = -2", "sheet(-1, 0, -1) = -2", "sheet(0, 3, -1) = -2", "sheet(0, -2, -1) = -2");
  }

  /** A HEAD of 16 BITS SAYS FIRST, or less than 0 as much, of one CARD. */
  private static void holds(String sort, int v, int held) {
    edge("40 cell", sort + " " + v + ": " + held, "deal(1)", held < 0 ? MINUS : THAT, "head(0, 16, " + Math.abs(held) + ")", sort + " 0: " + v, "judge(0, 0) = -1");
  }

  private static void cells() {
    edge("40 cell", "number 0, the least, and the last", "sheet(0, 2, 3)", "cell(0, 0, 4) = 1", "cell(0, 2, 5) = 1", "cardsBy(0, 2, 0, 3) = 2", "isrow 4 5");
    edge("40 cell", "of a SHEET alone", "ints 0: 4", "ints 1: 5", "cell(1, 0, 6)", "cardsBy(0, 2, 0, 1) = 1", "isrow 4");
    int[][] bytes = {{127, 127}, {128, -128}, {255, -1}, {256, 0}, {263, 7}, {-1, -1}, {-128, -128}, {-129, 127}, {-249, 7}, {65536, 0},
        {Integer.MAX_VALUE, -1}, {Integer.MIN_VALUE, 0}};
    for (int[] b : bytes) holds("bytes", b[0], b[1]);
    int[][] shorts = {{128, 128}, {255, 255}, {256, 256}, {32767, 32767}, {32768, -32768}, {65535, -1}, {65536, 0}, {65543, 7}, {-1, -1}, {-32768, -32768},
        {-32769, 32767}, {-65529, 7}, {Integer.MAX_VALUE, -1}, {Integer.MIN_VALUE, 0}};
    for (int[] b : shorts) holds("shorts", b[0], b[1]);
    int[][] ints = {{255, 255}, {256, 256}, {32768, 32768}, {65535, 65535}, {-1, -1}, {-65535, -65535}};
    for (int[] b : ints) holds("ints", b[0], b[1]);
    edge("40 cell", "ints hold 65536 and more", "deal(1)", "law first a;second b;says 10*a;", "head(0, 16, 6554)", "ints 0: 65540", "judge(0, 0) = -1",
        "shorts 0: 65540", "judge(0, 0) = 0");
    Edges.outside("40 cell", "SHEET", SOME, "cell(#, 0, 5)", "-2", -1, 4);
    Edges.outside("40 cell", "-11: SHEET 3 is missing, i", SOME, "cell(3, #, 5)", "-11", 0, 1);
    Edges.outside("40 cell", "i of three ints:", SOME, "cell(0, #, 5)", "-12", -1, 3, 39, 40);
    Edges.outside("40 cell", "i of two shorts:", SOME, "cell(1, #, 5)", "-12", -1, 2);
    Edges.outside("40 cell", "i of four bytes:", SOME, "cell(2, #, 5)", "-12", -1, 4);
    Edges.outside("40 cell", "i of none:", Edges.steps("sheet(0, 1, 0)"), "cell(0, #, 5)", "-12", -1, 0);
    Edges.outside("40 cell", "i of forty:", Edges.steps("sheet(0, 1, 40)"), "cell(0, #, 5)", "-12", -1, 40);
    Edges.still("40 cell", "BAD ahead of -11, -12", SOME, "cell(4, -1, 5) = -2", "cell(-1, 99, 5) = -2");
    Edges.still("40 cell", "-11 ahead of -12", SOME, "cell(3, -1, 5) = -11", "cell(3, 40, 5) = -11");
  }

  private static void copies() {
    edge("41 copy", "n 0 at the ends", "ints 0: 1 2", "ints 1: 3", "copy(0, 2, 1, 1, 0) = 0", "copy(0, 0, 1, 0, 0) = 0");
    edge("41 copy", "n 0 of none", "sheet(0, 0, 0)", "sheet(1, 0, 0)", "copy(0, 0, 1, 0, 0) = 0", "copy(0, 0, 1, 0, 1) = -12");
    edge("41 copy", "all of forty", "sheet(0, 1, 40)", "sheet(1, 1, 40)", "cell(0, 0, 4)", "cell(0, 39, 5)", "copy(0, 0, 1, 0, 40) = 40",
        "cardsBy(1, 1, 0, 40) = 2", "isrow 4 5", "cell(1, 39, 0)", "cardsBy(0, 1, 39, 1) = 1");
    edge("41 copy", "the last of one to the last of another", "ints 0: 1 2 3", "ints 1: 4 5", "copy(0, 2, 1, 1, 1) = 1", "cardsBy(1, 2, 0, 2) = 2", "isrow 4 3");
    edge("41 copy", "its own, ahead: as they were", "ints 0: 1 2 3 4 5", "copy(0, 0, 0, 2, 3) = 3", "cardsBy(0, 2, 0, 5) = 5", "isrow 1 2 1 2 3");
    edge("41 copy", "its own, back: as they were", "ints 0: 1 2 3 4 5", "copy(0, 2, 0, 0, 3) = 3", "cardsBy(0, 2, 0, 5) = 5", "isrow 3 4 5 4 5");
    edge("41 copy", "its own, to its place", "ints 0: 1 2 3", "copy(0, 0, 0, 0, 3) = 3", "cardsBy(0, 2, 0, 3) = 3", "isrow 1 2 3");
    for (int sort = 0; sort <= 2; sort++) {
      edge("41 copy", "of like sorts " + sort, "sheet(2, " + sort + ", 2)", "cell(2, 1, 9)", "sheet(3, " + sort + ", 2)", "copy(2, 1, 3, 0, 1) = 1",
          "cardsBy(3, " + sort + ", 0, 2) = 1", "isrow 9");
      for (int other = 0; other <= 2; other++) {
        if (other == sort) continue;
        Edges.still("41 copy", "-13: sorts " + sort + ", " + other, Edges.steps("sheet(0, " + sort + ", 2)", "cell(0, 0, 5)", "sheet(1, " + other + ", 2)"),
            "copy(0, 0, 1, 0, 1) = -13", "copy(0, 0, 1, 0, 0) = -13");
      }
    }
    String[] like = Edges.steps("ints 0: 1 2 3 4 5", "ints 1: 6 7 8");
    Edges.outside("41 copy", "the one SHEET", SOME, "copy(#, 0, 0, 0, 1)", "-2", -1, 4);
    Edges.outside("41 copy", "the other SHEET", SOME, "copy(0, 0, #, 0, 1)", "-2", -1, 4);
    Edges.still("41 copy", "-11: the one is missing", SOME, "copy(3, 0, 0, 0, 1) = -11");
    Edges.still("41 copy", "-11: the other is missing", SOME, "copy(0, 0, 3, 0, 1) = -11");
    Edges.still("41 copy", "-11: both are", SOME, "copy(3, 0, 3, 0, 0) = -11");
    Edges.outside("41 copy", "i", like, "copy(0, #, 1, 0, 1)", "-12", -1, 5, 6);
    Edges.outside("41 copy", "i, n 0,", like, "copy(0, #, 1, 0, 0)", "-12", -1, 6);
    Edges.outside("41 copy", "i, n 3,", like, "copy(0, #, 1, 0, 3)", "-12", -1, 3);
    Edges.outside("41 copy", "j", like, "copy(0, 0, 1, #, 1)", "-12", -1, 3, 4);
    Edges.outside("41 copy", "j, n 0,", like, "copy(0, 0, 1, #, 0)", "-12", -1, 4);
    Edges.outside("41 copy", "j, n 3,", like, "copy(0, 0, 1, #, 3)", "-12", -1, 1);
    Edges.outside("41 copy", "n", like, "copy(0, 0, 1, 0, #)", "-12", -1, 4);
    Edges.outside("41 copy", "n of its own", like, "copy(0, 1, 0, 2, #)", "-12", -1, 4);
    Edges.outside("41 copy", "i, of the greatest n,", like, "copy(0, #, 1, 0, MOST)", "-12", 1, 5);
    Edges.still("41 copy", "BAD ahead of -11, -13, -12", SOME, "copy(4, 0, 3, 0, 1) = -2", "copy(3, 0, 4, 0, 1) = -2", "copy(-1, -1, 0, -1, -1) = -2");
    Edges.still("41 copy", "-11 ahead of -12", SOME, "copy(3, -1, 0, 0, 1) = -11", "copy(0, 0, 3, -1, 1) = -11", "copy(3, 0, 1, 0, -1) = -11");
    Edges.still("41 copy", "-13 ahead of -12", SOME, "copy(0, -1, 1, 0, 1) = -13", "copy(0, 0, 1, 99, 1) = -13", "copy(0, 0, 1, 0, -1) = -13");
  }

  private static void cardsBySheet() {
    edge("42 cardsBy", "n 0, the least", "ints 0: 4", "cardsBy(0, 2, 0, 0) = 0", "isrow");
    edge("42 cardsBy", "n 0: no place is looked at", "ints 0: 4", "cardsBy(0, 2, 1, 0) = 0", "cardsBy(0, 2, -1, 0) = 0", "cardsBy(0, 2, 99, 0) = 0", "isrow");
    edge("42 cardsBy", "n 40, the greatest", "sheet(0, 0, 40)", "times 40: card(3)", "cell(0, 39, 5)", "cardsBy(0, 0, 0, 40) = 1", "at(40) = 5", "count(2) = 41");
    edge("42 cardsBy", "from a place on, one by one", "ints 0: 4 5 6 7", "cardsBy(0, 2, 1, 2) = 2", "isrow 5 6");
    edge("42 cardsBy", "the last one", "ints 0: 4 5 6 7", "cardsBy(0, 2, 3, 1) = 1", "isrow 7");
    edge("42 cardsBy", "others are left out: 0, 11, -1, the least and the greatest int", "ints 0: 0 10 11 -1 1 LEAST MOST 4", "cardsBy(0, 2, 0, 8) = 3", "isrow 10 1 4");
    edge("42 cardsBy", "bytes and shorts below 0 are left out", "bytes 0: 255 4", "shorts 1: 65535 5", "cardsBy(0, 0, 0, 2) = 1", "cardsBy(1, 1, 0, 2) = 1", "isrow 4 5");
    edge("42 cardsBy", "for others there is no room", "times 58: card(1)", "ints 0: 4 5 6", "cardsBy(0, 2, 0, 3) = 2", "count(2) = 60", "at(58) = 4", "at(59) = 5",
        "cardsBy(0, 2, 0, 3) = 0");
    edge("42 cardsBy", "-12: what stood ahead went by", "ints 0: 4 5 6", "cardsBy(0, 2, 1, 3) = -12", "isrow 5 6");
    edge("42 cardsBy", "-12: what stood ahead went by, forty of two", "shorts 0: 4 5", "cardsBy(0, 1, 0, 40) = -12", "isrow 4 5");
    edge("42 cardsBy", "-12: nothing stood ahead", "sheet(0, 2, 0)", "cardsBy(0, 2, 0, 1) = -12", "isrow");
    edge("42 cardsBy", "-12 of a full ROW, too", "times 60: card(1)", "ints 0: 4 5", "cardsBy(0, 2, 1, 2) = -12", "count(2) = 60");
    edge("42 cardsBy", "-12: from below 0 on nothing stood ahead", "ints 0: 4 5", "cardsBy(0, 2, -1, 3) = -12", "isrow");
    for (int sort = 0; sort <= 2; sort++) {
      for (int other = 0; other <= 2; other++) {
        String due = sort == other ? " = 1" : " = -13";
        Edges.edge("42 cardsBy", "a SHEET of sort " + sort + " as of sort " + other, "sheet(1, " + sort + ", 1)", "cell(1, 0, 7)", "cardsBy(1, " + other + ", 0, 1)" + due,
            "count(2) = " + (sort == other ? 1 : 0));
      }
    }
    Edges.outside("42 cardsBy", "SHEET", SOME, "cardsBy(#, 2, 0, 1)", "-2", -1, 4);
    Edges.outside("42 cardsBy", "sort", SOME, "cardsBy(0, #, 0, 1)", "-2", -1, 3);
    Edges.outside("42 cardsBy", "n", SOME, "cardsBy(0, 2, 0, #)", "-2", -1, 41);
    Edges.outside("42 cardsBy", "from", SOME, "cardsBy(0, 2, #, 2)", "-12", -1, -2, 3, 40);
    Edges.outside("42 cardsBy", "from, n 40,", SOME, "cardsBy(0, 2, #, 40)", "-12", -1, -40, 3);
    Edges.still("42 cardsBy", "-11: SHEET 3 is missing", SOME, "cardsBy(3, 2, 0, 1) = -11", "cardsBy(3, 0, 0, 0) = -11");
    Edges.still("42 cardsBy", "-13: unlike sorts", SOME, "cardsBy(0, 0, 0, 1) = -13", "cardsBy(1, 2, 0, 1) = -13", "cardsBy(2, 1, 0, 0) = -13");
    Edges.still("42 cardsBy", "BAD ahead of -11, -13, -12", SOME, "cardsBy(3, 3, 0, 1) = -2", "cardsBy(3, 2, 0, 41) = -2", "cardsBy(0, 0, 0, 41) = -2",
        "cardsBy(0, 3, 99, 1) = -2", "cardsBy(0, 2, 99, -1) = -2", "cardsBy(4, 2, 99, 1) = -2");
    Edges.still("42 cardsBy", "-11 ahead of -12", SOME, "cardsBy(3, 2, -1, 1) = -11", "cardsBy(3, 2, 99, 1) = -11");
    Edges.still("42 cardsBy", "-13 ahead of -12", SOME, "cardsBy(0, 1, -1, 1) = -13", "cardsBy(0, 1, 99, 1) = -13");
  }

  private static void takes() {
    // A KIND is what it is, and what the KINDS above it are.
    String[] kinds = {"0", "1 0", "2 0", "3 1 0", "4 2 0", "5 0"};
    for (int kind = 0; kind <= 5; kind++) {
      for (int as = 0; as <= 5; as++) {
        boolean is = kinds[kind].contains(String.valueOf(as));
        edge("43 taken", "KIND " + kind + " for KIND " + as, "head(" + (10 * kind + 9) + ", 4, 5)", "taken(0, " + as + ") = " + (is ? 0 : -13));
      }
      edge("43 taken", "KIND " + kind + " for a CARD", "head(" + 10 * kind + ", 4, 5)", "taken(0, 6) = -13");
      edge("43 taken", "a CARD for KIND " + kind, "card(1)", "taken(5, " + kind + ") = -13");
    }
    edge("43 taken", "place 0, the least: HEAD 0", "head(0, 4, 5)", "taken(0, 0) = 0");
    edge("43 taken", "place 4: HEAD 4", "times 5: head(0, 4, 5)", "taken(4, 0) = 4", "taken(3, 0) = 3");
    edge("43 taken", "place 5: the CARD at PLACE 0", "row 7 8", "taken(5, 6) = 7", "taken(6, 6) = 8");
    edge("43 taken", "place 64, the greatest: the CARD at PLACE 59", "deal(52)", "times 59: card(1)", "card(52)", "taken(64, 6) = 52", "taken(63, 6) = 1");
    edge("43 taken", "nothing lies at places of no HEADS", "taken(0, 0) = -11", "taken(4, 0) = -11", "head(0, 4, 5)", "taken(0, 0) = 0", "taken(1, 0) = -11");
    edge("43 taken", "nothing lies at places of no CARDS", "taken(5, 6) = -11", "taken(64, 6) = -11", "card(1)", "taken(5, 6) = 1", "taken(6, 6) = -11");
    edge("43 taken", "nothing lies where a CARD, a HEAD was", "image()", "card(10)", "head(0, 4, 5)", "back()", "taken(5, 6) = -11", "taken(0, 0) = -11");
    Edges.outside("43 taken", "kind", SOME, "taken(0, #)", "-2", -1, 7);
    Edges.outside("43 taken", "kind, of a CARD,", SOME, "taken(5, #)", "-2", -1, 7);
    Edges.outside("43 taken", "i for a HEAD", FULL, "taken(#, 0)", "-12", -1, 65);
    Edges.outside("43 taken", "i for a CARD", FULL, "taken(#, 6)", "-12", -1, 65);
    Edges.still("43 taken", "BAD ahead of -12, -11, -13", SOME, "taken(-1, 7) = -2", "taken(65, -1) = -2", "taken(4, 7) = -2", "taken(60, -1) = -2");
    Edges.still("43 taken", "-11 ahead of -13", SOME, "taken(4, 6) = -11", "taken(60, 0) = -11");
    Edges.still("43 taken", "-12, whatever lies elsewhere", NO_HEADS, "taken(65, 0) = -12", "taken(-1, 6) = -12");
  }

  private static void asked() {
    for (String call : new String[] {"judge(0, 0)", "judge(1, 1)", "kinds(0, 0, 0)", "kinds(1, 1, 1)", "kinds(2, 1, 2)", "begins(0, 0, 0)", "begins(2, 1, 1)",
        "laws(0, 0)", "laws(2, 1)", "whose(0)", "whose(2)", "drawn(7, 0, 0)", "drawn(99999, 1, 1)", "odds(99999, 30, 1, 0)", "odds(0, 1, 0, 1)", "taken(0, 1)", "taken(5, 6)"}) {
      Edges.still("REFUSALS", "what is asked changes nothing: " + call, SOME, call);
    }
    edge("REFUSALS", "the constants", "back() = " + FiftyOneCards.STATE, "card(0) = " + FiftyOneCards.BAD, "turn(0) = " + FiftyOneCards.NONE,
        "right(0, 0) = " + FiftyOneCards.NO, "times 60: card(1)", "card(1) = " + FiftyOneCards.FULL);
    edge("REFUSALS", "where it is told: a FAULT empties THE TAPE", "tape first", "text() = -105", "count(5) = 0");
    edge("REFUSALS", "where it is told: -12 of cardsBy lets CARDS by", "ints 0: 4", "cardsBy(0, 2, 0, 2) = -12", "isrow 4");
  }

  public static void main(String[] args) {
    judges();
    kindsBy();
    beginsBy();
    lawsBy();
    whoseBy();
    films();
    draws();
    oddsOf();
    images();
    sheets();
    cells();
    copies();
    cardsBySheet();
    takes();
    asked();
    Edges.end("SayingsAndHostEdgesTest");
  }
}
