/** Edges of promises 18 to 28, and of the terms KINDS, GOING, SAYS, BUT, RIGHT, TURNED. */
public final class HeadsEdgesTest {
  /** How many CARDS were seen (and 1 more for each slip). */
  private static final String COUNT = "law first a+1;second b;says a;";
  /** The row, a digit a CARD. */
  private static final String DIGITS = "law first a*10+item;second b;says a;";
  private static final String BOTH = "law first a;second b;says 1000*a+b;";
  private static final String LESS = "law first a;second b;says -1000*a-b;";
  private static final String[] SOME = Edges.steps("deal(12)", "head(13, 7, 100)", "head(25, 16, 65535)", "set(1, 2, 500)",
      "law first a+item;second b-place;says a*2+b;", "row 3 12 3 7", "image()", "card(2)", "ints 2: 9 8 7", "tape first 12");
  private static final String[] FIVE = Edges.steps("head(0, 1, 0)", "head(19, 16, 65535)", "head(20, 5, 9)", "head(39, 6, 8)",
      "head(50, 7, 7)", "row 4 5 6");
  private static final String[] NO_HEADS = Edges.steps("row 4 5 6");

  private static void edge(String promise, String sentence, String... steps) { Edges.edge(promise, sentence, steps); }

  /** h below and above all HEADS there are: of two, of five, of none. */
  private static void noHead(String promise, String call, String want) {
    Edges.outside(promise, "no such HEAD of two: h", SOME, call, want, -1, 2, 5);
    Edges.outside(promise, "no such HEAD of five: h", FIVE, call, want, -1, 5);
    Edges.outside(promise, "no such HEAD of none: h", NO_HEADS, call, want, -1, 0);
  }

  private static void goesBy(String kind, int kindMore, int cards, int due) {
    edge("KINDS", kind + " " + kindMore % 10 + ", " + cards + " CARDS", COUNT, "head(" + kindMore + ", 16, 0)",
        "times " + cards + ": card(1)", "say(0) = " + due);
  }

  private static void kindsSee() {
    goesBy("a HEAD sees all: MORE", 0, 60, 60);
    goesBy("a HEAD sees all: MORE", 9, 60, 60);
    goesBy("a SLOW of MORE", 10, 1, 1);
    goesBy("a SLOW doesn't see PLACE 1: MORE", 10, 2, 1);
    goesBy("a SLOW sees PLACE 2: MORE", 10, 3, 2);
    goesBy("a SLOW doesn't see PLACE 3: MORE", 10, 4, 2);
    goesBy("a SLOW sees PLACE 1: MORE", 11, 2, 2);
    goesBy("a SLOW doesn't see PLACE 2: MORE", 11, 3, 2);
    goesBy("a SLOW sees PLACE 9: MORE", 19, 10, 10);
    goesBy("a SLOW doesn't see PLACE 10: MORE", 19, 11, 10);
    goesBy("a SLOW sees PLACE 11: MORE", 19, 12, 11);
    goesBy("a SLOW doesn't see five of sixty: MORE", 19, 60, 55);
    goesBy("a DOZING as a SLOW: MORE", 30, 1, 1);
    goesBy("a DOZING as a SLOW: MORE", 30, 2, 1);
    goesBy("a DOZING, MORE by 3 is 0: MORE", 32, 1, 1);
    goesBy("a DOZING, MORE by 3 is 1: MORE", 33, 1, 0);
    goesBy("a DOZING, MORE by 3 is 1: MORE", 33, 2, 1);
    goesBy("a DOZING, MORE by 3 is 1: MORE", 35, 2, 1);
    goesBy("a DOZING, MORE by 3 is 2: MORE", 36, 2, 0);
    goesBy("a DOZING, MORE by 3 is 2: MORE", 36, 3, 1);
    goesBy("a DOZING, MORE by 3 is 2: MORE", 38, 3, 1);
    goesBy("a DOZING, MORE by 3 is 3: MORE", 39, 3, 0);
    goesBy("a DOZING, MORE by 3 is 3: MORE", 39, 4, 1);
    goesBy("a DOZING, as a SLOW too: MORE", 39, 10, 7);
    goesBy("a DOZING, as a SLOW too: MORE", 39, 11, 7);
    goesBy("a DOZING, as a SLOW too: MORE", 39, 12, 8);
    edge("KINDS", "a CARD not seen leaves both", "law first a+1;second b+1;says a*100+b;", "head(10, 16, 0)", "row 1 1", "say(0) = 101");
  }

  private static void kindsKeep() {
    goesBy("a SLIPPING sees PLACE 1, keeps that: MORE", 20, 2, 2);
    goesBy("a SLIPPING slips at PLACE 2: MORE", 20, 3, 4);
    goesBy("a SLIPPING, next at PLACE 5: MORE", 20, 5, 6);
    goesBy("a SLIPPING, next at PLACE 5: MORE", 20, 6, 8);
    goesBy("a SLIPPING, not at PLACE 2: MORE", 21, 3, 3);
    goesBy("a SLIPPING, at PLACE 3: MORE", 21, 4, 5);
    goesBy("a SLIPPING, not at PLACE 10: MORE", 29, 11, 11);
    goesBy("a SLIPPING, at PLACE 11: MORE", 29, 12, 13);
    goesBy("a SLIPPING, five of sixty: MORE", 29, 60, 65);
    goesBy("a ROUNDING: 1 is odd: MORE", 40, 1, 0);
    goesBy("a ROUNDING: 1 is odd, twice: MORE", 40, 2, 0);
    goesBy("a ROUNDING slips, then 2 is even: MORE", 40, 3, 2);
    goesBy("a ROUNDING, then 3 is odd: MORE", 40, 5, 2);
    goesBy("a ROUNDING slips again: MORE", 40, 6, 4);
    goesBy("a ROUNDING slips not yet: MORE", 49, 11, 0);
    goesBy("a ROUNDING slips: MORE", 49, 12, 2);
    edge("KINDS", "a ROUNDING slips ahead of rounding", "law first a+2;second b;says a;", "head(40, 16, 0)", "row 1 1 1",
        "keep(0, 2, 0) = 4", "say(0) = 6");
    edge("KINDS", "a ROUNDING: -1 is odd", "law first -1;second b;says a;", "head(40, 16, 0)", "row 1", "say(0) = 65534");
    edge("KINDS", "a ROUNDING: -3 is odd", "law first 0-3;second b;says a;", "head(40, 4, 0)", "row 1", "say(0) = 12");
    edge("KINDS", "a ROUNDING: 0 is not odd", "law first 0;second b;says a;", "head(40, 16, 9)", "row 1", "say(0) = 0");
    edge("KINDS", "a ROUNDING begins with what is odd", "head(40, 16, 5)", "say(0) = 5", "keep(0, 0, 0) = 5");
    for (int kind = 2; kind <= 4; kind += 2) {
      edge("KINDS", "of KIND " + kind + " second is as meant", "law first 0;second b+1;says b;", "head(" + kind + "0, 16, 0)",
          "row 1 1 1", "say(0) = 3");
    }
    edge("KINDS", "a SLIPPING keeps 1 more of 15, cut then", COUNT, "head(20, 4, 12)", "row 1 1 1", "keep(0, 2, 0) = 14", "say(0) = 0");
  }

  private static void kindsGo() {
    goesBy("a HEAD goes once: MORE", 9, 3, 3);
    goesBy("an AGAIN goes 1 and 1: MORE", 50, 3, 6);
    goesBy("an AGAIN goes 1 and 1, MORE by 5 is 0: MORE", 54, 3, 6);
    goesBy("an AGAIN goes 1 and 1 and 1: MORE", 55, 3, 9);
    goesBy("an AGAIN goes 1 and 1 and 1: MORE", 59, 3, 9);
    goesBy("an AGAIN sees all: MORE", 59, 60, 180);
    goesBy("an AGAIN of none: MORE", 59, 0, 0);
    for (int kind = 1; kind <= 4; kind++) {
      edge("KINDS", "KIND " + kind + " goes once", "law first a;second b+1;says b;", "head(" + kind + "9, 16, 0)", "row 1 1 1 1",
          "say(0) = " + (kind == 3 ? 1 : 4));
    }
    edge("GOING", "each time from PLACE 0", "law first a+place;second b;says a;", "head(50, 16, 0)", "row 1 1 1", "say(0) = 6");
    edge("GOING", "going on with what is kept, first and second", "law first a*2+item;second b*2+1;says a*100+b;", "head(55, 16, 0)",
        "row 1", "say(0) = 707");
  }

  private static void going() {
    edge("GOING", "with FIRST, SECOND one begins", BOTH, "head(0, 16, 7)", "set(0, 2, 8)", "say(0) = 7008", "keep(0, 0, 0) = 7",
        "keep(0, 0, 1) = 8");
    edge("GOING", "both of what was KEPT ahead", "law first b;second a;says 1000*a+b;", "head(0, 16, 7)", "row 1", "say(0) = 7",
        "card(1)", "say(0) = 7000");
    edge("GOING", "CARD by CARD from PLACE 0 on", DIGITS, "head(0, 16, 0)", "row 4 7 2", "say(0) = 472");
    edge("GOING", "item is the CARD, place its PLACE", "law first item;second place;says 100*a+b;", "head(0, 16, 0)", "row 4 7",
        "say(0) = 701");
    edge("GOING", "n is THE PACK's, more the HEAD's", "law first n;second more;says 100*a+b;", "head(6, 16, 0)", "deal(52)", "row 1",
        "say(0) = 5206");
    edge("GOING", "place 59 and item 52", "deal(52)", "law first item;second place;says 100*a+b;", "head(0, 16, 0)", "times 60: card(52)",
        "say(0) = 5259");
    edge("GOING", "but its lowest BITS bits: 1, as one begins", BOTH, "head(0, 1, 65535)", "set(0, 2, 65535)", "say(0) = 1001",
        "set(0, 1, 65534)", "set(0, 2, 65534)", "say(0) = 0");
    edge("GOING", "but its lowest BITS bits: 15, 16, as one begins", "law first a;second b;says a;", "head(0, 16, 65535)", "say(0) = 65535",
        "set(0, 0, 15)", "say(0) = 32767");
    edge("GOING", "but its lowest BITS bits: first, by a CARD", COUNT, "head(0, 4, 15)", "row 1", "say(0) = 0");
    edge("GOING", "but its lowest BITS bits: second, by a CARD", "law first a;second b+1;says b;", "head(0, 4, 0)", "set(0, 2, 15)",
        "row 1", "say(0) = 0");
    edge("GOING", "65535 and 1 of 16 bits wraps", COUNT, "head(0, 16, 65535)", "row 1", "say(0) = 0");
    edge("GOING", "what is below 0 has lowest bits", "law first -1;second -2;says 1000*a+b;", "head(0, 3, 0)", "row 1", "say(0) = 7006");
    edge("GOING", "0 less 1 of 16 bits", "head(0, 16, 0)", "row 1", "say(0) = 65535");
    edge("GOING", "0 less 1 of 1 bit", "head(0, 1, 0)", "row 1", "say(0) = 1");
    edge("GOING", "the greatest int has lowest bits", "law first 4096*4096*128-1;second 4096*4096*128;says a-b;", "head(0, 16, 0)",
        "set(0, 2, 9)", "row 1", "say(0) = 65535");
    edge("GOING", "what is cut is gone: it is cut each time", "law first a*2;second b;says a;", "head(0, 2, 3)", "row 1 1", "say(0) = 0");
  }

  private static void says() {
    edge("SAYS", "item of says is 0", "law first a;second b;says item;", "head(0, 4, 3)", "row 7 8", "say(0) = 0");
    edge("SAYS", "place of says is how many THE ROW has: none", "law first a;second b;says place;", "head(0, 4, 3)", "say(0) = 0");
    edge("SAYS", "place of says is how many THE ROW has: sixty, seen or not", "law first a;second b;says place;", "head(10, 4, 3)",
        "times 60: card(3)", "say(0) = 60");
    edge("SAYS", "n, more, a, b of says", "law first a;second b;says n*1000+more*100+a*10+b;", "head(7, 4, 3)", "set(0, 2, 5)",
        "say(0) = 10735");
    edge("SAYS", "just 1000000", BOTH, "head(0, 16, 1000)", "say(0) = 1000000");
    edge("SAYS", "1 below 1000000", BOTH, "head(0, 16, 999)", "set(0, 2, 999)", "say(0) = 999999");
    edge("SAYS", "1 above 1000000: the bound", BOTH, "head(0, 16, 1000)", "set(0, 2, 1)", "say(0) = 1000000");
    edge("SAYS", "just -1000000", LESS, "head(0, 16, 1000)", "say(0) = -1000000");
    edge("SAYS", "1 above -1000000", LESS, "head(0, 16, 999)", "set(0, 2, 999)", "say(0) = -999999");
    edge("SAYS", "1 below -1000000: the bound", LESS, "head(0, 16, 1000)", "set(0, 2, 1)", "say(0) = -1000000");
    edge("SAYS", "the greatest int: the bound", "law first a;second b;says a*4096*4096*128-1;", "head(0, 16, 1)", "say(0) = 1000000");
    edge("SAYS", "what wrapped is bounded as it is", "law first a;second b;says a*4096*4096*128;", "head(0, 16, 1)", "say(0) = -1000000",
        "set(0, 1, 2)", "say(0) = 0");
    edge("18 say", "nothing went by: by what one begins with", "head(0, 8, 55)", "say(0) = 55");
    edge("18 say", "each HEAD its own, 0 and 4", "head(0, 8, 55)", "times 3: head(0, 1, 0)", "head(0, 9, 66)", "row 5", "say(0) = 50",
        "say(4) = 61");
    edge("18 say", "by THE LAW of now", "head(0, 8, 55)", "row 5", "law first a+item;second b;says a;", "say(0) = 60", "force(0)", "say(0) = 50");
    noHead("18 say", "say(#)", "-1000005");
  }

  private static void keeps() {
    edge("19 keep", "n 0: as one begins", "head(0, 16, 9)", "set(0, 2, 7)", "row 1 2", "keep(0, 0, 0) = 9", "keep(0, 0, 1) = 7");
    edge("19 keep", "n 0 of none", "head(0, 2, 9)", "set(0, 2, 7)", "keep(0, 0, 0) = 1", "keep(0, 0, 1) = 3");
    edge("19 keep", "n 1, and all", "head(0, 16, 9)", "row 1 2", "keep(0, 1, 0) = 8", "keep(0, 1, 1) = 1", "keep(0, 2, 0) = 6",
        "keep(0, 2, 1) = 2");
    edge("19 keep", "n 60 of sixty", "head(0, 16, 99)", "times 60: card(1)", "keep(0, 60, 0) = 39", "keep(0, 60, 1) = 60");
    edge("19 keep", "n 0 of the last of three GOINGS", "head(55, 16, 99)", "row 1 2", "keep(0, 0, 0) = 93", "keep(0, 0, 1) = 4");
    edge("19 keep", "all of the last of three GOINGS", "head(55, 16, 99)", "row 1 2", "keep(0, 2, 0) = 90", "keep(0, 2, 1) = 6");
    edge("19 keep", "n counts CARDS not seen, too", "head(10, 16, 99)", "row 1 2 3", "keep(0, 2, 0) = 98", "keep(0, 3, 0) = 95");
    noHead("19 keep", "keep(#, 0, 0)", "-5");
    Edges.outside("19 keep", "n of five:", SOME, "keep(1, #, 0)", "-7", -1, 6);
    Edges.outside("19 keep", "n of none:", Edges.steps("head(0, 4, 4)"), "keep(0, #, 0)", "-7", -1, 1);
    Edges.outside("19 keep", "n of sixty:", Edges.steps("head(0, 4, 4)", "times 60: card(1)"), "keep(0, #, 1)", "-7", -1, 61);
    Edges.outside("19 keep", "what", SOME, "keep(1, 0, #)", "-7", -1, 2);
    Edges.still("19 keep", "-5 ahead of -7", SOME, "keep(2, -1, 0) = -5", "keep(2, 0, 2) = -5", "keep(-1, 9, 9) = -5");
  }

  private static void buts() {
    // BUT 1: 23, BUT 2: 13, BUT 3: 12.
    String up = "law first a*10+item;second b;says (a=23)+2*(a=13)+3*(a=12);";
    String down = "law first a*10+item;second b;says (a=32)+2*(a=31)+3*(a=21);";
    edge("BUT", "way 0: from the least on, all others once", "deal(3)", up, "head(0, 16, 0)", "right(0, 0) = 7", "right(0, 1) = 0");
    edge("BUT", "way 1: from the greatest on, all others once", "deal(3)", down, "head(0, 16, 0)", "right(0, 1) = 7", "right(0, 0) = 0");
    edge("BUT", "whatever went by", "deal(3)", up, "head(0, 16, 0)", "row 3 3 3", "right(0, 0) = 7", "isrow 3 3 3");
    edge("RIGHT", "by way 0: least, begin, who", "deal(3)", up, "head(0, 16, 0)", "least(0) = 5", "begin(0, 0) = 0", "begin(0, 1) = 3",
        "who(0) = 0", "who(1) = 3");
    edge("RIGHT", "not by way 1: least, begin, who", "deal(3)", down, "head(0, 16, 0)", "least(0) = -1", "begin(0, 1) = 0", "who(1) = 0");
    edge("BUT", "of one CARD: nothing goes by", "deal(1)", "law first 0;second 0;says a-place;", "head(0, 4, 1)", "right(0, 0) = 1",
        "right(0, 1) = 1");
  }

  private static void rights() {
    edge("20 right", "of all of 10, by both ways", "head(0, 8, 55)", "right(0, 0) = 1023", "right(0, 1) = 1023");
    edge("20 right", "of none", "head(0, 8, 54)", "right(0, 0) = 0");
    edge("20 right", "CARD 1 is bit 0", "law first a;second b;says 1;", "head(0, 8, 0)", "right(0, 0) = 1");
    edge("20 right", "CARD 52 is bit 51", "deal(52)", "law first a;second b;says n;", "head(0, 8, 0)", "right(0, 0) = 2251799813685248");
    edge("20 right", "of all of 52", "deal(52)", "head(0, 16, 1378)", "right(0, 0) = 4503599627370495", "right(0, 1) = 4503599627370495");
    edge("20 right", "CARD 32 is bit 31, 33 is bit 32", "deal(52)", "law first a;second b;says a;", "head(0, 8, 32)", "right(0, 0) = 2147483648",
        "set(0, 1, 33)", "right(0, 1) = 4294967296");
    edge("20 right", "what it says else is right of none", "law first a;second b;says 11;", "head(0, 8, 0)", "right(0, 0) = 0");
    noHead("20 right", "right(#, 0)", "NO");
    noHead("20 right", "right(#, 1)", "NO");
    Edges.outside("20 right", "way", SOME, "right(1, #)", "NO", -1, 2);
  }

  private static void leasts() {
    edge("21 least", "1, the fewest", "deal(1)", "head(0, 9, 1)", "least(0) = 1");
    edge("21 least", "1, not fewer, where BITS don't matter", "deal(1)", "law first a;second b;says 1;", "head(0, 9, 9)", "least(0) = 1");
    edge("21 least", "16, the most", "deal(1)", "law first a;second b;says a=8*4096;", "head(0, 3, 32768)", "least(0) = 16");
    edge("21 least", "the fewest, though more are not right", "deal(1)", "law first a;second b;says a=2;", "head(0, 9, 6)", "least(0) = 2");
    edge("21 least", "-1: there are none", "head(0, 16, 54)", "least(0) = -1");
    edge("21 least", "of all CARDS: 7 of 3 bits, 8 need 4", "deal(7)", "head(0, 16, 28)", "least(0) = 3", "deal(8)", "set(0, 1, 36)", "least(0) = 4");
    edge("21 least", "of 52", "deal(52)", "head(0, 1, 1378)", "least(0) = 6");
    edge("21 least", "its BITS stay, and don't matter", "head(0, 1, 55)", "least(0) = 4", "told(0, 2) = 1");
    edge("21 least", "FIRST, SECOND as they were told, of so many bits", "deal(1)", "law first a;second b;says (a=3)*(b=3);", "head(0, 1, 65535)",
        "set(0, 2, 65535)", "least(0) = 2");
    noHead("21 least", "least(#)", "-5");
  }

  private static void begins() {
    edge("22 begin", "FIRST 0, the first of them", "deal(1)", "law first a;second b;says 1-a;", "head(0, 16, 9)", "begin(0, 0) = 0", "begin(0, 1) = 1");
    edge("22 begin", "FIRST 99, the last below THE PACK's sum", "deal(1)", "law first a;second b;says a-98;", "head(0, 16, 9)", "begin(0, 0) = 99",
        "begin(0, 1) = 1");
    edge("22 begin", "not FIRST 100", "deal(1)", "law first a;second b;says a-99;", "head(0, 16, 100)", "begin(0, 0) = 0", "begin(0, 1) = 0");
    edge("22 begin", "THE PACK's sum: 1378 of 52", "deal(52)", "head(0, 16, 9)", "begin(0, 0) = 1378", "begin(0, 1) = 52");
    edge("22 begin", "THE PACK's sum: 105 of 14, the least above 99", "deal(14)", "head(0, 16, 9)", "begin(0, 0) = 105", "begin(0, 1) = 14");
    edge("22 begin", "THE PACK's sum among the others: 91 of 13", "deal(13)", "head(0, 16, 9)", "begin(0, 0) = 91", "begin(0, 1) = 13");
    edge("22 begin", "of like ones the first so: 34, 98 ahead of 1378", "deal(52)", "head(0, 6, 9)", "begin(0, 0) = 34", "set(0, 0, 7)",
        "begin(0, 0) = 98", "set(0, 0, 9)", "begin(0, 0) = 1378");
    edge("22 begin", "right of none by any: the first", "law first a;second b;says 0;", "head(0, 16, 9)", "begin(0, 0) = 0", "begin(0, 1) = 0");
    edge("22 begin", "most, not all", "law first a;second b;says a;", "head(0, 16, 0)", "begin(0, 0) = 1", "begin(0, 1) = 1");
    edge("22 begin", "FIRST stays, SECOND is its own", "deal(1)", "law first a;second b;says b-8+(a=5);", "head(0, 16, 3)", "set(0, 2, 8)",
        "begin(0, 0) = 5", "told(0, 3) = 3", "told(0, 4) = 8");
    noHead("22 begin", "begin(#, 0)", "-5");
    Edges.outside("22 begin", "what", SOME, "begin(0, #)", "-7", -1, 2);
    Edges.still("22 begin", "-5 ahead of -7", SOME, "begin(2, 2) = -5", "begin(-1, -1) = -5");
  }

  private static void sames() {
    for (int how = 0; how <= 1; how++) {
      edge("23 same", "how " + how + " of none: 1", DIGITS, "head(0, 16, 9)", "same(0, " + how + ") = 1");
      edge("23 same", "how " + how + " of one CARD: 1", DIGITS, "head(0, 16, 0)", "row 7", "same(0, " + how + ") = 1");
      edge("23 same", "how " + how + " of two: 0", DIGITS, "head(0, 16, 0)", "row 7 8", "same(0, " + how + ") = 0", "isrow 7 8");
      edge("23 same", "how " + how + " of sixty", "law first (place=0)*item+(0<place)*a;second b;says a;", "head(0, 16, 0)", "card(2)",
          "times 58: card(3)", "card(4)", "same(0, " + how + ") = 0", "turn(0)", "turn(2)", "same(0, " + how + ") = 0", "fill(-1, 0)",
          "same(0, " + how + ") = 0");
    }
    edge("TURNED", "how 0, not how 1", DIGITS, "head(0, 16, 0)", "row 4 5 4", "same(0, 0) = 1", "same(0, 1) = 0");
    edge("TURNED", "how 1 is one ahead, not one behind", "law first a+(place=0)*item;second b;says a;", "head(0, 16, 0)", "row 4 5 4",
        "same(0, 1) = 0", "row 4 4 5", "same(0, 1) = 1", "same(0, 0) = 0");
    noHead("23 same", "same(#, 0)", "-5");
    Edges.outside("23 same", "how", SOME, "same(0, #)", "-7", -1, 2);
    Edges.still("23 same", "-5 ahead of -7", SOME, "same(2, 2) = -5", "same(-1, -1) = -5");
  }

  private static void shares() {
    String digitsAndPlace = "law first a*10+item;second b;says a*100+place;";
    edge("24 share", "of none: both as they begin", "head(0, 16, 7)", "head(0, 16, 20)", "share(0, 1) = 27");
    edge("24 share", "of one CARD: the other one has none", digitsAndPlace, "head(0, 16, 0)", "row 7", "share(0, 0) = 701");
    edge("24 share", "of five: three and two, from PLACE 0 each", digitsAndPlace, "head(0, 16, 0)", "row 1 2 3 4 5", "share(0, 0) = 15905");
    edge("24 share", "their PLACES count anew", "law first a+place*item;second b;says a;", "head(0, 16, 0)", "row 1 2 3 4 5 6", "share(0, 0) = 29");
    edge("24 share", "the first at PLACES 0, 2, .., the second at 1, 3, ..", "law first a*10+item;second b;says a;", "head(0, 16, 1)",
        "head(0, 16, 3)", "row 1 2 3 4", "share(0, 1) = 437", "share(1, 0) = 437", "head(0, 4, 0)", "share(0, 2) = 121", "share(2, 0) = 137");
    edge("24 share", "the same one begins anew", COUNT, "head(0, 16, 100)", "row 1 2 3", "share(0, 0) = 203");
    edge("24 share", "of sixty: thirty each", "law first a;second b;says place;", "head(0, 16, 0)", "times 60: card(1)", "share(0, 0) = 60");
    edge("24 share", "each within its bound, together above it", BOTH, "head(0, 16, 60000)", "share(0, 0) = 2000000");
    edge("24 share", "each within its bound, together below it", LESS, "head(0, 16, 60000)", "share(0, 0) = -2000000");
    noHead("24 share", "share(#, 0)", "-1000005");
    noHead("24 share", "share(0, #)", "-1000005");
    Edges.still("24 share", "no such HEAD, both", SOME, "share(2, 2) = -1000005", "share(-1, -1) = -1000005");
  }

  private static void states() {
    edge("25 states", "n 0: as it begins alone", "head(0, 16, 9)", "states(0, 1, 0) = 1", "states(0, 6, 0) = 1");
    edge("25 states", "n 1, few 1, the least", "head(0, 16, 9)", "states(0, 1, 1) = 2");
    edge("25 states", "n 3, few 6, the greatest: all unlike", "law first a*7+item;second b;says 0;", "head(0, 16, 0)", "states(0, 6, 3) = 259");
    edge("25 states", "few least of THE PACK", "law first item;second b;says 0;", "head(0, 16, 9)", "states(0, 3, 1) = 4", "set(0, 1, 3)",
        "states(0, 3, 1) = 3", "states(0, 3, 3) = 3");
    edge("25 states", "few as many as THE PACK has", "deal(1)", "head(0, 16, 9)", "states(0, 1, 3) = 4", "deal(6)", "states(0, 6, 1) = 7",
        "deal(5)", "states(0, 5, 1) = 6");
    edge("25 states", "each any: also the same again", "law first a*10+item;second b;says 0;", "head(0, 16, 0)", "states(0, 2, 2) = 7");
    edge("25 states", "as it begins, but its lowest bits", "law first item;second b;says 0;", "head(0, 4, 19)", "states(0, 3, 1) = 3");
    edge("25 states", "pairs unlike in the second alone", "law first a;second b*7+item;says 0;", "head(0, 16, 0)", "states(0, 6, 2) = 43");
    edge("25 states", "of one bit there are 4 pairs at most", "law first item;second b+a;says 0;", "head(0, 1, 0)", "states(0, 6, 3) = 4");
    edge("25 states", "pairs of 16 bits all set", "law first a-item;second b-item;says 0;", "head(0, 16, 0)", "states(0, 6, 3) = 19");
    edge("25 states", "at PLACES 0, 1, ..: a SLOW 0 does not see PLACE 1", "law first a*7+item;second b;says 0;", "head(10, 16, 0)",
        "states(0, 6, 1) = 7", "states(0, 6, 2) = 7", "states(0, 6, 3) = 43");
    edge("25 states", "at PLACE 2 a SLIPPING slips", "law first 0;second b;says 0;", "head(20, 16, 0)", "states(0, 6, 2) = 1", "states(0, 6, 3) = 2");
    edge("25 states", "once, of an AGAIN too", "law first a+place;second b;says 0;", "head(59, 16, 0)", "states(0, 6, 2) = 2", "states(0, 6, 3) = 3");
    edge("25 states", "THE ROW does not matter", "head(0, 16, 9)", "row 4 5 6", "states(0, 1, 1) = 2");
    edge("25 states", "n of THE LAW is THE PACK's", "law first n;second b;says 0;", "head(0, 16, 10)", "states(0, 1, 3) = 1", "deal(9)",
        "states(0, 1, 3) = 2");
    noHead("25 states", "states(#, 1, 1)", "-5");
    Edges.outside("25 states", "few", SOME, "states(0, #, 1)", "-7", 0, 7, -1);
    Edges.outside("25 states", "few above what THE PACK has, 3:", Edges.steps("deal(3)", "head(0, 4, 4)"), "states(0, #, 1)", "-7", 4, 6, 0);
    Edges.outside("25 states", "n", SOME, "states(0, 1, #)", "-7", -1, 4);
    Edges.still("25 states", "-5 ahead of -7", SOME, "states(2, 7, 1) = -5", "states(2, 1, 4) = -5", "states(-1, 0, -1) = -5");
  }

  private static void drops() {
    String minus = "law first a+item;second b;says 0-a;";
    edge("26 drop", "THE ROW is empty: -1, -1000000", "head(0, 16, 9)", "drop(0, 0) = -1", "drop(0, 1) = -1000000");
    edge("26 drop", "of one CARD: nothing is left", "head(0, 16, 9)", "row 4", "drop(0, 0) = 0", "drop(0, 1) = 9");
    edge("26 drop", "one CARD less goes by", "law first a+1;second b;says a*100+place;", "head(0, 16, 0)", "row 7 7 7", "drop(0, 1) = 202");
    edge("26 drop", "the first PLACE", minus, "head(0, 16, 0)", "row 9 2 3", "drop(0, 0) = 0", "drop(0, 1) = -5");
    edge("26 drop", "the last PLACE", minus, "head(0, 16, 0)", "row 3 2 9", "drop(0, 0) = 2", "drop(0, 1) = -5");
    edge("26 drop", "of like ones the first", minus, "head(0, 16, 0)", "row 3 9 2 9", "drop(0, 0) = 1", "drop(0, 1) = -14");
    edge("26 drop", "PLACE 59 of sixty", minus, "head(0, 16, 0)", "times 59: card(1)", "card(2)", "drop(0, 0) = 59", "drop(0, 1) = -59");
    edge("26 drop", "all of sixty alike", minus, "head(0, 16, 0)", "times 60: card(1)", "drop(0, 0) = 0", "drop(0, 1) = -59");
    edge("26 drop", "all at the lower bound: the first", LESS, "head(0, 16, 60000)", "row 1 2", "drop(0, 0) = 0", "drop(0, 1) = -1000000");
    edge("26 drop", "all at the upper bound: the first", BOTH, "head(0, 16, 60000)", "row 1 2", "drop(0, 0) = 0", "drop(0, 1) = 1000000");
    edge("26 drop", "those behind come one PLACE ahead", DIGITS, "head(0, 16, 0)", "row 1 9 5", "drop(0, 0) = 0", "drop(0, 1) = 95", "isrow 1 9 5");
    noHead("26 drop", "drop(#, 0)", "-1000005");
    Edges.outside("26 drop", "what", SOME, "drop(0, #)", "-1000007", -1, 2);
    Edges.outside("26 drop", "what, THE ROW is empty,", Edges.steps("head(0, 4, 4)"), "drop(0, #)", "-1000007", -1, 2);
    Edges.outside("26 drop", "THE ROW is empty, no such HEAD: h", Edges.steps("head(0, 4, 4)"), "drop(#, 0)", "-1000005", -1, 1);
    Edges.still("26 drop", "-1000005 ahead of -1000007", SOME, "drop(2, 2) = -1000005", "drop(-1, -1) = -1000005");
  }

  private static void oftens() {
    String first = "law first a+(place=0)*item;second b;says a;";
    edge("27 often", "n 1: THE ROW alone", first, "head(0, 16, 0)", "row 4 5 5", "often(0, 1, 4) = 1", "often(0, 1, 5) = 0");
    edge("27 often", "n 2: TURNED by 1, too", first, "head(0, 16, 0)", "row 4 5 6", "often(0, 2, 5) = 1", "often(0, 2, 6) = 0");
    edge("27 often", "n 3: again by 1", first, "head(0, 16, 0)", "row 4 5 6", "often(0, 3, 6) = 1", "often(0, 3, 4) = 1");
    edge("27 often", "n above what THE ROW has: it begins again", first, "head(0, 16, 0)", "row 4 5 6", "often(0, 4, 4) = 2", "often(0, 4, 5) = 1");
    edge("27 often", "n 20, the greatest", first, "head(0, 16, 0)", "row 4 5 6", "often(0, 20, 4) = 7", "often(0, 20, 5) = 7", "often(0, 20, 6) = 6",
        "isrow 4 5 6");
    edge("27 often", "of none, each time", "head(0, 16, 9)", "often(0, 20, 9) = 20", "often(0, 1, 9) = 1");
    edge("27 often", "of one, each time", "head(0, 16, 9)", "row 2", "often(0, 20, 7) = 20");
    edge("27 often", "of sixty", first, "head(0, 16, 0)", "times 19: card(1)", "card(2)", "times 40: card(1)", "often(0, 19, 2) = 0", "often(0, 20, 2) = 1");
    edge("27 often", "much 1000000, the greatest", BOTH, "head(0, 16, 60000)", "often(0, 3, 1000000) = 3", "often(0, 3, 999999) = 0");
    edge("27 often", "much -1000000, the least", LESS, "head(0, 16, 60000)", "often(0, 3, -1000000) = 3", "often(0, 3, -999999) = 0");
    noHead("27 often", "often(#, 3, 4)", "-5");
    Edges.outside("27 often", "n", SOME, "often(0, #, 4)", "-7", 0, 21, -1);
    Edges.outside("27 often", "much", SOME, "often(0, 3, #)", "-7", 1000001, -1000001);
    Edges.still("27 often", "-5 ahead of -7", SOME, "often(2, 0, 4) = -5", "often(2, 21, 4) = -5", "often(2, 1, 1000001) = -5", "often(-1, -1, 4) = -5");
  }

  private static void whos() {
    edge("28 who", "there are none: -1", "who(0) = -1", "who(1) = -1");
    edge("28 who", "one that is right of none", "head(0, 8, 54)", "who(0) = 0", "who(1) = 0");
    edge("28 who", "the last of five", "times 4: head(0, 8, 54)", "head(0, 3, 55)", "who(0) = 4", "who(1) = 7");
    edge("28 who", "of like ones the first", "head(0, 3, 55)", "head(0, 8, 55)", "head(0, 9, 55)", "who(0) = 1", "who(1) = 10");
    edge("28 who", "of like ones, right of none, the first", "head(0, 8, 54)", "head(0, 8, 53)", "who(0) = 0", "who(1) = 0");
    edge("28 who", "of most, not of all", "head(0, 1, 55)", "head(0, 2, 55)", "head(0, 1, 55)", "who(0) = 1", "who(1) = 3");
    edge("28 who", "of all of 52", "deal(52)", "head(0, 16, 1377)", "head(0, 16, 1378)", "who(0) = 1", "who(1) = 52");
    Edges.outside("28 who", "what", SOME, "who(#)", "-2", -1, 2);
    Edges.outside("28 who", "there are none: not -1, what", NO_HEADS, "who(#)", "-2", -1, 2);
  }

  private static void asked() {
    for (String call : new String[] {"say(1)", "keep(1, 3, 1)", "right(0, 0)", "right(1, 1)", "least(0)", "begin(0, 1)", "same(0, 0)",
        "same(1, 1)", "share(0, 1)", "states(1, 6, 3)", "drop(0, 0)", "drop(1, 1)", "often(0, 20, 5)", "who(0)", "who(1)"}) {
      Edges.still("REFUSALS", "what is asked changes nothing: " + call, SOME, call);
    }
  }

  public static void main(String[] args) {
    kindsSee();
    kindsKeep();
    kindsGo();
    going();
    says();
    keeps();
    buts();
    rights();
    leasts();
    begins();
    sames();
    shares();
    states();
    drops();
    oftens();
    whos();
    asked();
    Edges.end("HeadsEdgesTest");
  }
}
