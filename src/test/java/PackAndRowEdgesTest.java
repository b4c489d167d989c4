/** Edges of promises 1 to 10, and of the terms THE PACK and THE ROW. */
public final class PackAndRowEdgesTest {
  private static final String[] SOME = Edges.steps("deal(7)", "row 3 7 3 1", "head(24, 9, 28)", "image()", "card(5)",
      "tape first 12", "ints 0: 4 5 6");
  private static final String[] NONE_WENT = Edges.steps("deal(7)");
  private static final String[] FULL = Edges.steps("deal(9)", "times 60: card(9)");

  private static void edge(String promise, String sentence, String... steps) { Edges.edge(promise, sentence, steps); }

  private static void packAndRow() {
    edge("THE PACK", "it has 10 at first", "count(1) = 10", "card(10) = 1", "card(11) = -2");
    edge("THE PACK", "CARDS begin with 1", "card(1) = 1", "card(0) = -2");
    edge("THE PACK", "1 is its least n", "deal(1) = 10", "card(1) = 1", "card(2) = -2", "count(1) = 1");
    edge("THE PACK", "52 is its greatest n", "deal(52) = 10", "card(52) = 1", "card(53) = -2", "count(1) = 52");
    edge("THE ROW", "none went by at first", "count(2) = 0", "isrow");
    edge("THE ROW", "up to 60 went by", "times 59: card(1)", "card(2) = 60", "card(3) = -4", "at(59) = 2", "at(60) = -6");
    edge("THE ROW", "PLACES are 0, 1, ..", "card(7)", "card(8)", "at(0) = 7", "at(1) = 8", "at(2) = -6");
    edge("THE ROW", "a CARD can go by more than once", "card(7) = 1", "card(7) = 2", "isrow 7 7");
  }

  private static void newObject() {
    edge("1 a new object", "no HEADS", "count(0) = 0", "told(0, 0) = -5", "say(0) = -1000005", "head(0, 1, 0) = 0");
    edge("1 a new object", "nothing went by", "count(2) = 0", "at(0) = -6", "card(4) = 1");
    edge("1 a new object", "nothing on THE TAPE", "count(5) = 0", "text() = -100");
    edge("1 a new object", "but TEXT 0, which is THE LAW", "count(3) = 1", "count(4) = 0", "force(0) = 0", "force(1) = -2");
    edge("1 a new object", "no IMAGE", "back() = -3");
    for (int s = 0; s <= 3; s++) edge("1 a new object", "no SHEET " + s, "cell(" + s + ", 0, 0) = -11");
    edge("1 a new object", "its 512th call is answered", "times 60: card(1)", "times 451: card(1) = -4", "count(2) = 60");
    FiftyOneCards x = new FiftyOneCards();
    Steps.wrong(x, "deal(3)", "card(2)", "head(0, 1, 1)", "law first 1;second 2;says 3;", "tape a", "image()", "ints 0: 1");
    edge("1 a new object", "it has nothing of another one", "count(0) = 0", "count(1) = 10", "count(2) = 0",
        "count(3) = 1", "count(4) = 0", "count(5) = 0", "back() = -3", "cell(0, 0, 0) = -11");
  }

  private static void counts() {
    edge("2 count", "what 0: HEADS, from none to 5", "count(0) = 0", "head(0, 1, 0)", "count(0) = 1",
        "times 4: head(0, 1, 0)", "count(0) = 5", "head(0, 1, 0) = -4", "count(0) = 5");
    edge("2 count", "what 1: THE PACK, from 1 to 52", "count(1) = 10", "deal(52)", "count(1) = 52", "deal(1)", "count(1) = 1");
    edge("2 count", "what 2: THE ROW, from none to 60", "count(2) = 0", "card(1)", "count(2) = 1",
        "times 59: card(1)", "count(2) = 60", "card(1) = -4", "count(2) = 60");
    edge("2 count", "what 3: TEXTS, from 1 to 6", "count(3) = 1", "times 5: read first a;second b;says a;",
        "count(3) = 6", "text() = -4", "count(3) = 6");
    edge("2 count", "what 3: a FAULT is no TEXT", "read first = -105", "count(3) = 1");
    edge("2 count", "what 4: THE LAW, from 0 to 5", "count(4) = 0", "times 5: law first a;second b;says a;",
        "count(4) = 5", "force(0)", "count(4) = 0");
    edge("2 count", "what 5: THE TAPE, from no byte to 160", "count(5) = 0", "feed(1, 0, 0, 0, 0, 0)", "count(5) = 1",
        "times 31: feed(5, 0, 0, 0, 0, 0)", "feed(4, 0, 0, 0, 0, 0)", "count(5) = 160",
        "feed(1, 0, 0, 0, 0, 0) = -4", "count(5) = 160");
    Edges.outside("2 count", "what", SOME, "count(#)", "-2", -1, 6);
  }

  private static void deals() {
    edge("3 deal", "n 1, the least", "deal(1) = 10", "count(1) = 1");
    edge("3 deal", "n 52, the greatest", "deal(52) = 10", "count(1) = 52");
    edge("3 deal", "how many it had, each time", "deal(5) = 10", "deal(7) = 5", "deal(7) = 7", "deal(1) = 7", "deal(52) = 1");
    edge("3 deal", "the greatest CARD of the new PACK stays", "row 8 9 10", "deal(9) = 10", "isrow 8 9");
    edge("3 deal", "such as are none then go, others stay in order", "row 9 2 10 7 2 10 1", "deal(8)", "isrow 2 7 2 1");
    edge("3 deal", "all of THE ROW can go", "row 9 2 10", "deal(1)", "isrow", "count(2) = 0");
    edge("3 deal", "1 stays of a PACK of 1", "row 1 2 1", "deal(1)", "isrow 1 1");
    edge("3 deal", "as many as it had: none go", "row 9 2 10", "deal(10) = 10", "isrow 9 2 10");
    edge("3 deal", "those that went don't come again", "row 9 2 10", "deal(9)", "deal(10)", "isrow 9 2");
    edge("3 deal", "a full ROW can go", "times 60: card(10)", "deal(9)", "isrow", "card(9) = 1");
    edge("3 deal", "HEADS stay", "head(24, 9, 28)", "deal(1)", "count(0) = 1", "told(0, 0) = 2", "told(0, 3) = 28");
    Edges.outside("3 deal", "n", SOME, "deal(#)", "-2", 0, 53, -1);
  }

  private static void cards() {
    edge("4 card", "v 1, the least", "card(1) = 1", "isrow 1");
    edge("4 card", "v 10, the greatest of 10", "card(10) = 1", "isrow 10");
    edge("4 card", "v 52, the greatest of 52", "deal(52)", "card(52) = 1", "isrow 52");
    edge("4 card", "v 1, the greatest of 1", "deal(1)", "card(1) = 1", "isrow 1");
    edge("4 card", "behind all others", "card(9)", "card(3)", "card(9)", "card(1)", "isrow 9 3 9 1");
    edge("4 card", "how many have", "card(9) = 1", "card(9) = 2", "times 57: card(1)", "card(9) = 60");
    edge("4 card", "FULL goes as soon as there is room", "card(10)", "times 59: card(1)", "card(2) = -4", "deal(9)", "card(2) = 60");
    Edges.outside("4 card", "v of a PACK of 7:", SOME, "card(#)", "-2", 0, 8, -1);
    Edges.outside("4 card", "v of a PACK of 1:", Edges.steps("deal(1)"), "card(#)", "-2", 0, 2);
    Edges.outside("4 card", "v of a PACK of 52:", Edges.steps("deal(52)"), "card(#)", "-2", 0, 53);
    Edges.still("4 card", "FULL changes nothing", FULL, "card(1) = -4");
    Edges.still("4 card", "BAD ahead of FULL", FULL, "card(10) = -2", "card(0) = -2");
  }

  private static void fills() {
    edge("5 fill", "but -1: all of it, way 0", "deal(4)", "fill(-1, 0) = 4", "isrow 1 2 3 4");
    edge("5 fill", "but -1: all of it, way 1", "deal(4)", "fill(-1, 1) = 4", "isrow 4 3 2 1");
    edge("5 fill", "BUT the least CARD", "deal(4)", "fill(1, 0) = 3", "isrow 2 3 4", "fill(1, 1) = 3", "isrow 4 3 2");
    edge("5 fill", "BUT the greatest CARD", "deal(4)", "fill(4, 0) = 3", "isrow 1 2 3", "fill(4, 1) = 3", "isrow 3 2 1");
    edge("5 fill", "what went by ahead is gone", "deal(4)", "row 4 4 1", "fill(2, 0) = 3", "isrow 1 3 4");
    edge("5 fill", "a full ROW too", "times 60: card(1)", "fill(-1, 0) = 10", "isrow 1 2 3 4 5 6 7 8 9 10");
    edge("5 fill", "of one CARD none is left", "deal(1)", "card(1)", "fill(1, 0) = 0", "isrow");
    edge("5 fill", "of one CARD, all of it", "deal(1)", "fill(-1, 1) = 1", "isrow 1");
    edge("5 fill", "all of 52", "deal(52)", "fill(-1, 1) = 52", "at(0) = 52", "at(51) = 1", "at(52) = -6");
    edge("5 fill", "BUT 52", "deal(52)", "fill(52, 0) = 51", "at(0) = 1", "at(50) = 51", "at(51) = -6");
    Edges.outside("5 fill", "but of a PACK of 7:", SOME, "fill(#, 0)", "-2", 0, 8, -2);
    Edges.outside("5 fill", "but, way 1, of a PACK of 7:", SOME, "fill(#, 1)", "-2", 0, 8, -2);
    Edges.outside("5 fill", "but of a PACK of 52:", Edges.steps("deal(52)", "card(3)"), "fill(#, 1)", "-2", 0, 53, -2);
    Edges.outside("5 fill", "way", SOME, "fill(3, #)", "-2", -1, 2);
    Edges.outside("5 fill", "way, but -1,", SOME, "fill(-1, #)", "-2", -1, 2);
  }

  private static void places() {
    edge("6 at", "PLACE 0, the least", "row 4 6", "at(0) = 4");
    edge("6 at", "the last PLACE", "row 4 6", "at(1) = 6");
    edge("6 at", "PLACE 59 of a full ROW", "times 59: card(1)", "card(2)", "at(59) = 2", "at(58) = 1");
    edge("6 at", "PLACE 0 of none", "at(0) = -6");
    edge("6 at", "a PLACE that was", "row 4 9", "deal(5)", "at(1) = -6", "at(0) = 4");
    Edges.outside("6 at", "of five, place", SOME, "at(#)", "-6", -1, 5, 6, 59, 60);
    Edges.outside("6 at", "of a full ROW, place", FULL, "at(#)", "-6", -1, 60, 61);
  }

  private static void turns() {
    edge("7 turn", "how 0: the last first, and so on, of an even ROW", "row 1 2 3 4", "turn(0) = 4", "isrow 4 3 2 1");
    edge("7 turn", "how 0 of an odd ROW", "row 1 2 3", "turn(0) = 3", "isrow 3 2 1");
    edge("7 turn", "how 1: the first one last, all others one ahead", "row 1 2 3 4", "turn(1) = 2", "isrow 2 3 4 1");
    edge("7 turn", "how 2: the last one first, all others one behind", "row 1 2 3 4", "turn(2) = 4", "isrow 4 1 2 3");
    for (int how = 0; how <= 2; how++) {
      edge("7 turn", "how " + how + " of none: -1", "turn(" + how + ") = -1", "isrow");
      edge("7 turn", "how " + how + " of one", "row 6", "turn(" + how + ") = 6", "isrow 6");
      edge("7 turn", "how " + how + " of two", "row 6 7", "turn(" + how + ") = 7", "isrow 7 6");
    }
    edge("7 turn", "how 0 of sixty", "card(2)", "times 58: card(1)", "card(3)", "turn(0) = 3", "at(59) = 2", "at(1) = 1", "count(2) = 60");
    edge("7 turn", "how 1 of sixty", "card(2)", "times 58: card(1)", "card(3)", "turn(1) = 1", "at(59) = 2", "at(58) = 3", "count(2) = 60");
    edge("7 turn", "how 2 of sixty", "card(2)", "times 58: card(1)", "card(3)", "turn(2) = 3", "at(1) = 2", "at(59) = 1", "count(2) = 60");
    Edges.outside("7 turn", "how", SOME, "turn(#)", "-2", -1, 3);
    Edges.outside("7 turn", "how of none: not -1, how", NONE_WENT, "turn(#)", "-2", -1, 3);
  }

  private static void missingOnes() {
    edge("8 missing", "k 0, the least: the least of them", "deal(5)", "row 1 4", "missing(0) = 2");
    edge("8 missing", "the last of them, and no more", "deal(5)", "row 1 4", "missing(2) = 5", "missing(3) = -1");
    edge("8 missing", "k 51, the greatest: a CARD", "deal(52)", "missing(51) = 52");
    edge("8 missing", "k 51: no more", "deal(52)", "row 3", "missing(50) = 52", "missing(51) = -1");
    edge("8 missing", "nothing went by", "missing(0) = 1", "missing(9) = 10", "missing(10) = -1");
    edge("8 missing", "none is missing", "fill(-1, 1)", "missing(0) = -1", "missing(51) = -1");
    edge("8 missing", "what came twice is not missing", "deal(3)", "row 2 2", "missing(0) = 1", "missing(1) = 3", "missing(2) = -1");
    edge("8 missing", "of one CARD", "deal(1)", "missing(0) = 1", "card(1)", "missing(0) = -1");
    edge("8 missing", "by a full ROW", "deal(3)", "times 60: card(2)", "missing(0) = 1", "missing(1) = 3", "missing(2) = -1");
    Edges.outside("8 missing", "k", SOME, "missing(#)", "-2", -1, 52);
    Edges.outside("8 missing", "none is missing: not -1, k", Edges.steps("fill(-1, 0)"), "missing(#)", "-2", -1, 52);
  }

  private static void truths() {
    int[] ofNone = {10, 0, -1, 0, 0, -1, 0, 0};
    int[] ofSixty = {51, 1, 52, 60, 1, 52, 3120, 162240};
    int[] ofAll = {0, 52, 1, 1, 0, -1, 1378, 48230};
    for (int what = 0; what <= 7; what++) {
      edge("9 truth", "nothing went by, what " + what, "truth(" + what + ") = " + ofNone[what]);
      edge("9 truth", "sixty of 52 went by, what " + what, "deal(52)", "times 60: card(52)", "truth(" + what + ") = " + ofSixty[what]);
      edge("9 truth", "all of 52 went by, what " + what, "deal(52)", "fill(-1, 1)", "truth(" + what + ") = " + ofAll[what]);
    }
    edge("9 truth", "what 0: all but one missing", "row 4 4 4", "truth(0) = 9");
    edge("9 truth", "what 1: unlike ones", "row 4 4 5 4", "truth(1) = 2");
    edge("9 truth", "what 2: of like ones the least, though it came later", "row 9 9 4 4 5", "truth(2) = 4", "truth(3) = 2");
    edge("9 truth", "what 2: which came most, though it is not the least", "row 9 9 4", "truth(2) = 9");
    edge("9 truth", "what 2: the greatest CARD alone", "row 10", "truth(2) = 10");
    edge("9 truth", "what 4: just half is not more", "row 4 5 4 6", "truth(4) = 0");
    edge("9 truth", "what 4: more than half", "row 4 5 4", "truth(4) = 1");
    edge("9 truth", "what 4: one of one", "row 4", "truth(4) = 1");
    edge("9 truth", "what 4: just half of sixty, and two less", "times 30: card(4)", "times 29: card(5)", "truth(4) = 1",
        "card(6)", "truth(4) = 0");
    edge("9 truth", "what 5: whose second coming, not whose first, was earliest", "row 4 5 5 4", "truth(5) = 5");
    edge("9 truth", "what 5: third ones don't matter", "row 4 5 6 4 4 5 5", "truth(5) = 4");
    edge("9 truth", "what 5: the last one makes it two", "row 4 5 6 7 6", "truth(5) = 6");
    edge("9 truth", "what 5: the first two", "row 4 4", "truth(5) = 4", "card(4)", "truth(5) = 4");
    edge("9 truth", "what 5: the first and the last", "row 4 5 4", "truth(5) = 4");
    edge("9 truth", "what 5: none came twice", "row 4 5 6 7", "truth(5) = -1");
    edge("9 truth", "what 6, 7: like ones each time", "row 4 4 1", "truth(6) = 9", "truth(7) = 33");
    Edges.outside("9 truth", "what", SOME, "truth(#)", "-2", -1, 8);
  }

  private static void twoOnes() {
    edge("10 two", "the two least, of two CARDS", "deal(2)", "two(0) = 102", "two(1) = 1");
    edge("10 two", "the two greatest of 52", "deal(50)", "fill(-1, 0)", "deal(52)", "two(0) = 5152", "two(1) = 51");
    edge("10 two", "the least and the greatest of 52", "deal(51)", "fill(1, 0)", "deal(52)", "two(0) = 152", "two(1) = 1");
    edge("10 two", "none missing", "fill(-1, 0)", "two(0) = -1", "two(1) = 10");
    edge("10 two", "one missing: 0 is no CARD", "fill(7, 0)", "two(0) = -1", "two(1) = 10");
    edge("10 two", "three missing", "row 1 2 3 4 5 6 7", "two(0) = -1", "two(1) = 10");
    edge("10 two", "of one CARD", "deal(1)", "two(0) = -1", "two(1) = 1", "card(1)", "two(0) = -1", "two(1) = 1");
    // The sum is 2 too low, the squares are 2 too low: 1 and 1.
    edge("10 two", "w is a greater one, not the same", "deal(5)", "row 5 5 1 1 1", "two(0) = -1", "two(1) = 5");
    // The sum is 6 too low, the squares are 26 too low: 1 and 5.
    edge("10 two", "w is a CARD of THE PACK", "deal(4)", "row 1 1 1 1", "two(0) = -1", "two(1) = 4");
    // 2, 3, 7 have the sum and the squares of 1, 5, 6.
    edge("10 two", "by a sum and squares alone", "deal(8)", "row 2 3 7 2 3 7", "two(0) = 408", "two(1) = 4");
    // Of 2 and 9 missing, 3 for 4 and 6 for 5: the sum is the same.
    edge("10 two", "the squares too must be so", "row 1 3 3 6 6 7 8 10", "two(0) = -1", "two(1) = 10");
    edge("10 two", "THE ROW's sum is above THE PACK's", "fill(-1, 0)", "card(3)", "two(0) = -1", "two(1) = 10");
    edge("10 two", "THE ROW is full", "deal(52)", "times 60: card(52)", "two(0) = -1", "two(1) = 52");
    Edges.outside("10 two", "what", SOME, "two(#)", "-2", -1, 2);
  }

  public static void main(String[] args) {
    packAndRow();
    newObject();
    counts();
    deals();
    cards();
    fills();
    places();
    turns();
    missingOnes();
    truths();
    twoOnes();
    asked();
    Edges.end("PackAndRowEdgesTest");
  }

  /** "What is asked changes nothing." */
  private static void asked() {
    for (String call : new String[] {"count(2)", "at(1)", "missing(1)", "truth(2)", "truth(5)", "two(0)", "two(1)"}) {
      Edges.still("REFUSALS", "what is asked changes nothing: " + call, SOME, call);
    }
    Edges.still("REFUSALS", "what is asked changes nothing: at(9), no such PLACE", SOME, "at(9) = -6");
  }
}
