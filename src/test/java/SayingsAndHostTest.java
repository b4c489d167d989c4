/** Promises 29 to 43: told sayings, rows by lot, images, the host. */
public final class SayingsAndHostTest {
  private static final long NO = -4611686018427387904L;

  /** A pack of 10, head 0 right of all, head 1 of the first seven, head 2 always 1 less. */
  private static FiftyOneCards three() {
    FiftyOneCards x = new FiftyOneCards();
    x.head(0, 8, 55);
    x.head(0, 3, 55);
    x.head(0, 16, 54);
    return x;
  }

  private static void judges() {
    FiftyOneCards x = three();
    Due.due("judge(4, 0)", x.judge(4, 0), -2);
    Due.due("judge(-1, 9)", x.judge(-1, 9), -2);
    Due.due("judge(0, 0) of none", x.judge(0, 0), -11);
    Due.due("judge(0, 9) of none", x.judge(0, 9), -11);
    Due.tell(x, 0, 1, 2, 3, 4, 5, 6, 7, 8, 9, 10);
    Due.due("judge(0, 0)", x.judge(0, 0), -1);
    Due.due("judge(0, 1)", x.judge(0, 1), 7);
    Due.due("judge(0, 2)", x.judge(0, 2), 0);
    Due.due("judge(0, 3)", x.judge(0, 3), -5);
    Due.due("judge(0, -1)", x.judge(0, -1), -5);
    x.cell(0, 9, 0);
    Due.due("judge of the last", x.judge(0, 0), 9);
    x.deal(9);
    Due.due("judge(0, 0), it tells more", x.judge(0, 0), -2);
    Due.due("judge(0, 9), it tells more", x.judge(0, 9), -2);
    x.sheet(0, 2, 0);
    Due.due("judge of nothing told", x.judge(0, 2), -1);
    Due.due("judge(0, 3) of nothing told", x.judge(0, 3), -5);
    // Bytes and shorts are what they are in the host: from 128, 32768 on below 0.
    Due.read(x, "first a;second b;says 0-a;");
    x.force(1);
    x.set(0, 0, 16);
    x.set(0, 1, 56);
    x.sheet(1, 0, 1);
    x.cell(1, 0, 200);
    Due.due("judge by a byte 200", x.judge(1, 0), -1);
    x.set(0, 1, 25536);
    x.sheet(1, 1, 1);
    x.cell(1, 0, 40000);
    Due.due("judge by a short 40000", x.judge(1, 0), -1);
    x.sheet(1, 2, 1);
    x.cell(1, 0, 40000);
    Due.due("judge by an int 40000", x.judge(1, 0), 0);
  }

  private static void kindsBy() {
    FiftyOneCards x = three();
    Due.due("kinds(4, 0, 0)", x.kinds(4, 0, 0), -2);
    Due.due("kinds(0, 0, 0) of none", x.kinds(0, 0, 0), -11);
    Due.tell(x, 0, 1, 2, 3, 4, 5, 6, 7, 8, 9, 10);
    Due.due("kinds(0, 3, 9)", x.kinds(0, 3, 9), -5);
    Due.due("kinds(0, 0, 3)", x.kinds(0, 0, 3), -7);
    Due.due("kinds(0, 0, -1)", x.kinds(0, 0, -1), -7);
    Due.due("kinds(0, 0, 0)", x.kinds(0, 0, 0), 1);
    Due.due("kinds(0, 0, 1)", x.kinds(0, 0, 1), 1023);
    Due.due("kinds(0, 0, 2)", x.kinds(0, 0, 2), (1 << 17) - 16);
    Due.due("kinds(0, 2, 2)", x.kinds(0, 2, 2), 0);
    Due.due("kinds(0, 1, 2)", x.kinds(0, 1, 2), (1 << 17) - 16);
    x.deal(9);
    Due.due("kinds, it tells more", x.kinds(0, 3, 9), -2);
    // Of three cards, two go by: of more 1 all kinds are alike till then, but a ROUNDING, an AGAIN.
    x = new FiftyOneCards();
    x.deal(3);
    x.head(11, 8, 6);
    Due.tell(x, 0, 1, 2, 3);
    Due.due("kinds of a SLOW 1", x.kinds(0, 0, 0), 1 + 2 + 4 + 8);
    Due.due("kinds of a SLOW 1 by more", x.kinds(0, 0, 1), 1022);
    Due.tell(x, 0, 4, 5, 5);
    Due.due("a SLOW 0 by more", x.kinds(0, 0, 1), 1);
    x.film(0, 0, 3);
    Due.due("kinds by a film", x.kinds(0, 0, 0) & 2, 2);
    Due.due("kind stays", x.told(0, 0), 1);
    Due.due("more stays", x.told(0, 1), 1);
    Due.due("bits stay", x.told(0, 2), 8);
    x.sheet(0, 0, 0);
    Due.due("kinds of nothing told", x.kinds(0, 0, 0), 63);
    Due.due("kinds of nothing told", x.kinds(0, 0, 1), 1023);
    Due.due("kinds of nothing told", x.kinds(0, 0, 2), (1 << 17) - 2);
  }

  private static void beginsBy() {
    FiftyOneCards x = three();
    Due.due("begins(4, 0, 0)", x.begins(4, 0, 0), -2);
    Due.due("begins(0, 0, 0) of none", x.begins(0, 0, 0), -11);
    Due.tell(x, 0, 1, 2, 3, 4, 5, 6, 7, 8, 9, 10);
    Due.due("begins(0, 3, 9)", x.begins(0, 3, 9), -5);
    Due.due("begins(0, 0, 2)", x.begins(0, 0, 2), -7);
    Due.due("begins(0, 0, -1)", x.begins(0, 0, -1), -7);
    Due.due("begins(0, 2, 0)", x.begins(0, 2, 0), 1);
    Due.due("begins(0, 2, 1)", x.begins(0, 2, 1), 55);
    x.set(0, 0, 6);
    Due.due("begins of 6 bits: how many", x.begins(0, 0, 0), 3);
    Due.due("begins of 6 bits: the least", x.begins(0, 0, 1), 55);
    x.cell(0, 0, 9);
    Due.due("begins: how many", x.begins(0, 0, 0), 0);
    Due.due("begins: the least", x.begins(0, 0, 1), -1);
    Due.due("first stays", x.told(0, 3), 55);
    x.sheet(0, 1, 0);
    Due.due("begins of nothing told", x.begins(0, 0, 0), 201);
    Due.due("begins of nothing told", x.begins(0, 0, 1), 0);
    x.sheet(0, 1, 11);
    Due.due("begins, it tells more", x.begins(0, 9, 9), -2);
    // BUT 1 it says FIRST less 54.
    Due.tell(x, 0, 200 - 54);
    Due.due("begins by 200", x.begins(0, 2, 1), 200);
    Due.tell(x, 0, 201 - 54);
    Due.due("begins by 201: none", x.begins(0, 2, 1), -1);
  }

  private static void lawsBy() {
    FiftyOneCards x = three();
    Due.due("laws(4, 0)", x.laws(4, 0), -2);
    Due.due("laws(0, 0) of none", x.laws(0, 0), -11);
    Due.tell(x, 0, 1, 2, 3);
    Due.due("laws(0, 3)", x.laws(0, 3), -5);
    Due.due("laws(0, 0)", x.laws(0, 0), 1);
    Due.read(x, "first a;second b+item;says 55-b;");
    Due.read(x, "first a;second b;says a;");
    Due.read(x, "first -item+a;second 0;says a+b;");
    Due.due("laws(0, 0)", x.laws(0, 0), 1 + 2 + 8);
    x.force(2);
    Due.due("laws(0, 0), by another law", x.laws(0, 0), 1 + 2 + 8);
    Due.due("laws(0, 2)", x.laws(0, 2), 2);
    Due.due("the law stays", x.count(4), 2);
    x.sheet(0, 1, 0);
    Due.due("laws of nothing told", x.laws(0, 0), 15);
    x.sheet(0, 1, 11);
    Due.due("laws, it tells more", x.laws(0, 9), -2);
  }

  private static void whoseBy() {
    FiftyOneCards x = three();
    Due.due("whose(4)", x.whose(4), -2);
    Due.due("whose(-1)", x.whose(-1), -2);
    Due.due("whose(0) of none", x.whose(0), -11);
    Due.tell(x, 0, 1, 2, 3, 4, 5, 6, 7);
    Due.due("whose(0) of seven", x.whose(0), 3);
    Due.tell(x, 0, 1, 2, 3, 4, 5, 6, 7, 8);
    Due.due("whose(0) of eight", x.whose(0), 1);
    Due.tell(x, 0, 0, 1);
    Due.due("whose(0) of 0 1", x.whose(0), 4);
    x.sheet(0, 0, 0);
    Due.due("whose(0) of nothing told", x.whose(0), 7);
    x.sheet(0, 0, 11);
    Due.due("whose, it tells more", x.whose(0), -2);
  }

  private static void films() {
    FiftyOneCards x = three();
    Due.due("film(4, 9, 99)", x.film(4, 9, 99), -2);
    Due.due("film(-1, 0, 1)", x.film(-1, 0, 1), -2);
    Due.due("film(0, 3, 99)", x.film(0, 3, 99), -5);
    Due.due("film(0, 0, 11)", x.film(0, 0, 11), -7);
    Due.due("film(0, 0, -1)", x.film(0, 0, -1), -7);
    Due.due("no sheet yet", x.cell(0, 0, 0), -11);
    x.sheet(0, 0, 2);
    Due.due("film(0, 1, 10)", x.film(0, 1, 10), 10);
    Due.due("it tells of head 1", x.judge(0, 1), -1);
    Due.due("and otherwise of head 0", x.judge(0, 0), 7);
    Due.due("ints", x.cardsBy(0, 2, 0, 10), 9);
    for (int i = 0; i < 7; i++) Due.due("at", x.at(i), i + 1);
    Due.due("BUT 9 it says 1", x.at(7), 1);
    Due.due("ten of them", x.cell(0, 9, 1), 1);
    Due.due("no more", x.cell(0, 10, 1), -12);
    Due.due("film(3, 2, 0)", x.film(3, 2, 0), 0);
    Due.due("none", x.cell(3, 0, 1), -12);
    // From the least on: BUT 1 2 3, and 9 less for what is not.
    Due.read(x, "first a-item-9*(item<b);second item;says a;");
    x.force(1);
    x.deal(3);
    x.set(0, 1, 6);
    Due.due("film(1, 0, 3)", x.film(1, 0, 3), 3);
    x.cardsBy(1, 2, 0, 3);
    for (int v = 3; v >= 1; v--) Due.due("by way 0", x.at(x.count(2) + v - 4), v);
    Due.due("judge by way 0", x.judge(1, 0), -1);
    x.deal(52);
    Due.due("film(0, 0, 40)", x.film(0, 0, 40), 40);
    Due.due("film(0, 0, 41)", x.film(0, 0, 41), -7);
  }

  private static void draws() {
    FiftyOneCards x = three();
    Due.due("drawn(7, 3, 0)", x.drawn(7, 3, 0), -1000005);
    Due.due("drawn(-1, -1, 9)", x.drawn(-1, -1, 9), -1000005);
    Due.due("drawn(-1, 0, 0)", x.drawn(-1, 0, 0), -1000007);
    Due.due("drawn(100000, 0, 0)", x.drawn(100000, 0, 0), -1000007);
    Due.due("drawn(0, 0, 2)", x.drawn(0, 0, 2), -1000007);
    Due.due("drawn(0, 0, -1)", x.drawn(0, 0, -1), -1000007);
    Due.due("drawn(0, 0, 0)", x.drawn(0, 0, 0), 48271 % 10 + 1);
    Due.due("drawn(0, 0, 1)", x.drawn(0, 0, 1), 48271 % 10 + 1);
    Due.due("drawn(99999, 0, 0)", x.drawn(99999, 0, 0), 100000L * 48271 % 2147483647 % 10 + 1);
    Due.due("drawn(99999, 2, 1)", x.drawn(99999, 2, 1), 100000L * 48271 % 2147483647 % 10);
    x.deal(1);
    x.set(0, 1, 1);
    Due.due("drawn of one card", x.drawn(5, 0, 0), 1);
    Due.due("drawn of one card", x.drawn(5, 0, 1), 1);
    // A pack of four, and a head that writes down the row, a digit each.
    x.deal(4);
    Due.read(x, "first a*10+item;second b;says a;");
    x.force(1);
    x.set(0, 0, 16);
    x.set(0, 1, 0);
    for (int seed = 0; seed < 20; seed++) {
      long lot = (seed + 1L) * 48271 % 2147483647;
      int absent = (int) (lot % 4) + 1;
      int[] row = new int[3];
      for (int v = 1, i = 0; v <= 4; v++) if (v != absent) row[i++] = v;
      for (int k = 2; k >= 1; k--) {
        lot = lot * 48271 % 2147483647;
        int j = (int) (lot % (k + 1));
        int was = row[k];
        row[k] = row[j];
        row[j] = was;
      }
      Due.due("the missing one", x.drawn(seed, 0, 0), absent);
      Due.due("the row drawn by " + seed, x.drawn(seed, 0, 1), row[0] * 100 + row[1] * 10 + row[2]);
    }
    Due.due("nothing went by", x.count(2), 0);
  }

  private static void oddsOf() {
    FiftyOneCards x = three();
    for (int part = 0; part <= 1; part++) {
      Due.due("odds seed", x.odds(-1, 1, 0, part), NO);
      Due.due("odds seed", x.odds(100000, 1, 0, part), NO);
      Due.due("odds seeds", x.odds(0, 0, 0, part), NO);
      Due.due("odds seeds", x.odds(0, 31, 0, part), NO);
      Due.due("odds head", x.odds(0, 1, 3, part), NO);
      Due.due("odds head", x.odds(0, 1, -1, part), NO);
      Due.due("all of 30", x.odds(99999, 30, 0, part), 1);
      Due.due("none of 30", x.odds(99999, 30, 2, part), part);
    }
    Due.due("odds part", x.odds(0, 1, 0, 2), NO);
    Due.due("odds part", x.odds(0, 1, 0, -1), NO);
    for (int seeds = 1; seeds <= 30; seeds++) {
      int hits = 0;
      for (int i = 0; i < seeds; i++) {
        if ((99990L + i + 1) * 48271 % 2147483647 % 10 < 7) hits++;
      }
      int divisor = 1;
      for (int d = 2; d <= seeds; d++) if (hits % d == 0 && seeds % d == 0) divisor = d;
      Due.due("odds above", x.odds(99990, seeds, 1, 0), hits / divisor);
      Due.due("odds below", x.odds(99990, seeds, 1, 1), seeds / divisor);
    }
  }

  private static void images() {
    FiftyOneCards x = new FiftyOneCards();
    Due.due("back() without one", x.back(), -3);
    x.head(0, 8, 55);
    x.head(32, 7, 5);
    x.card(3);
    x.card(10);
    x.set(1, 2, 77);
    Due.read(x, "first a;second b;says a;");
    Due.feedAll(x, "abc");
    Due.tell(x, 0, 9, 8);
    Due.due("image()", x.image(), 2);
    x.deal(5);
    x.fill(2, 1);
    x.set(0, 0, 1);
    x.set(0, 1, 2);
    x.set(1, 2, 3);
    x.head(11, 5, 6);
    x.force(1);
    Due.read(x, "");
    x.cell(0, 0, 7);
    for (int again = 0; again < 2; again++) {
      Due.due("back()", x.back(), 2);
      int[] counts = {2, 10, 2, 2, 0, 0};
      for (int i = 0; i < counts.length; i++) Due.due("back: count(" + i + ")", x.count(i), counts[i]);
      Due.due("back: at(0)", x.at(0), 3);
      Due.due("back: at(1)", x.at(1), 10);
      int[][] told = {{0, 0, 8, 55, 0}, {3, 2, 7, 5, 77}};
      for (int h = 0; h < 2; h++) for (int w = 0; w < 5; w++) Due.due("back: told", x.told(h, w), told[h][w]);
      Due.due("back: told(2, 0)", x.told(2, 0), -5);
      x.card(1);
      x.deal(3);
      x.set(1, 0, 16);
      x.head(22, 3, 4);
    }
    Due.due("sheets and texts stay as they are", x.cell(0, 1, 7), 1);
    Due.due("force(1)", x.force(1), 0);
    x.set(2, 2, 9);
    x.back();
    x.head(22, 3, 4);
    Due.due("a new one's second", x.told(2, 4), 0);
    x.deal(3);
    x.set(1, 0, 16);
    x.card(1);
    x.force(1);
    Due.due("another image", x.image(), 3);
    x.force(0);
    x.card(1);
    Due.due("back to it", x.back(), 3);
    Due.due("told(2, 0)", x.told(2, 0), 2);
    Due.due("told(1, 2)", x.told(1, 2), 16);
    Due.due("count(4)", x.count(4), 1);
    Due.due("count(1)", x.count(1), 3);
    Due.due("count(2)", x.count(2), 2);
  }

  private static void sheets() {
    FiftyOneCards x = new FiftyOneCards();
    int[][] bad = {{4, 0, 1}, {-1, 0, 1}, {0, 3, 1}, {0, -2, 1}, {0, 0, 41}, {4, 0, -1}, {0, 3, -1}};
    for (int[] b : bad) Due.due("sheet bad", x.sheet(b[0], b[1], b[2]), -2);
    Due.due("sheet(0, 1, -1)", x.sheet(0, 1, -1), -14);
    Due.due("none made", x.cell(0, 0, 0), -11);
    for (int s = 0; s < 4; s++) {
      for (int sort = 0; sort <= 2; sort++) {
        Due.due("sheet", x.sheet(s, sort, 40), 1);
        Due.due("cell 39", x.cell(s, 39, 1), 1);
        Due.due("cell 40", x.cell(s, 40, 1), -12);
        Due.due("cell -1", x.cell(s, -1, 1), -12);
        Due.due("sheet anew", x.sheet(s, sort, 2), 1);
        Due.due("cell 2", x.cell(s, 2, 1), -12);
        Due.due("sheet(s, sort, -1)", x.sheet(s, sort, -1), -14);
        Due.due("stays", x.cell(s, 1, 1), 1);
      }
    }
    // All 0 anew: no card among them.
    x.sheet(0, 2, 3);
    for (int i = 0; i < 3; i++) x.cell(0, i, 5);
    x.sheet(0, 2, 3);
    Due.due("all 0", x.cardsBy(0, 2, 0, 3), 0);
    Due.due("missing", x.sheet(0, -1, 99), 1);
    Due.due("missing", x.cell(0, 0, 1), -11);
    Due.due("missing again", x.sheet(0, -1, -99), 1);
  }

  private static void cells() {
    FiftyOneCards x = new FiftyOneCards();
    Due.due("cell(4, 0, 1)", x.cell(4, 0, 1), -2);
    Due.due("cell(-1, 0, 1)", x.cell(-1, 0, 1), -2);
    Due.due("cell(0, -1, 1)", x.cell(0, -1, 1), -11);
    int[] same = {256 + 7, 65536 + 7, 65536 + 256 + 7};
    int[][] went = {{1, 1, 1}, {0, 1, 0}, {0, 0, 0}};
    for (int sort = 0; sort <= 2; sort++) {
      x.sheet(0, sort, 1);
      for (int i = 0; i < same.length; i++) {
        Due.due("cell", x.cell(0, 0, same[i]), 1);
        Due.due("its lowest bits", x.cardsBy(0, sort, 0, 1), went[sort][i]);
      }
      Due.due("cell 1", x.cell(0, 1, 5), -12);
      Due.due("cell most", x.cell(0, Integer.MAX_VALUE, 5), -12);
    }
  }

  private static void copies() {
    FiftyOneCards x = new FiftyOneCards();
    Due.due("copy sheets", x.copy(4, 0, 0, 0, 0), -2);
    Due.due("copy sheets", x.copy(0, 0, 4, 0, 0), -2);
    Due.due("copy sheets", x.copy(0, 0, -1, 0, 0), -2);
    Due.due("copy nothing", x.copy(0, 0, 1, 0, 0), -11);
    Due.tell(x, 0, 1, 2, 3, 4, 5);
    Due.due("copy to nothing", x.copy(0, -1, 1, 0, 0), -11);
    Due.due("copy from nothing", x.copy(1, 0, 0, 0, 0), -11);
    x.sheet(1, 1, 5);
    Due.due("copy unlike", x.copy(0, -1, 1, 0, -1), -13);
    x.sheet(1, 2, 3);
    int[][] outside = {{-1, 0, 1}, {0, -1, 1}, {0, 0, -1}, {0, 0, 4}, {3, 0, 3}, {0, 1, 3}, {6, 0, 0}, {0, 4, 0},
        {Integer.MAX_VALUE, 0, 1}, {0, Integer.MAX_VALUE, 1}, {1, 1, Integer.MAX_VALUE}, {0, 0, Integer.MIN_VALUE}};
    for (int[] o : outside) Due.due("copy outside", x.copy(0, o[0], 1, o[1], o[2]), -12);
    Due.due("none of these came", x.cardsBy(1, 2, 0, 3), 0);
    Due.due("copy none at the ends", x.copy(0, 5, 1, 3, 0), 0);
    Due.due("copy(0, 2, 1, 1, 2)", x.copy(0, 2, 1, 1, 2), 2);
    Due.due("0 3 4", x.cardsBy(1, 2, 0, 3), 2);
    Due.due("3", x.at(0), 3);
    Due.due("4", x.at(1), 4);
    Due.due("its own, ahead", x.copy(0, 0, 0, 1, 4), 4);
    x.cardsBy(0, 2, 0, 5);
    int[] ahead = {1, 1, 2, 3, 4};
    for (int i = 0; i < 5; i++) Due.due("its own, ahead", x.at(2 + i), ahead[i]);
    Due.due("its own, back", x.copy(0, 1, 0, 0, 4), 4);
    x.cardsBy(0, 2, 0, 5);
    int[] back = {1, 2, 3, 4, 4};
    for (int i = 0; i < 5; i++) Due.due("its own, back", x.at(7 + i), back[i]);
    x.sheet(2, 0, 2);
    x.sheet(3, 0, 2);
    x.cell(2, 1, 6);
    Due.due("bytes", x.copy(2, 1, 3, 0, 1), 1);
    Due.due("bytes", x.cardsBy(3, 0, 0, 2), 1);
    Due.due("bytes", x.at(12), 6);
  }

  private static void cardsBySheet() {
    FiftyOneCards x = new FiftyOneCards();
    int[][] bad = {{4, 0, 1}, {-1, 0, 1}, {0, 3, 1}, {0, -1, 1}, {0, 0, 41}, {0, 0, -1}};
    for (int[] b : bad) Due.due("cardsBy bad", x.cardsBy(b[0], b[1], 0, b[2]), -2);
    Due.due("cardsBy nothing", x.cardsBy(0, 0, -1, 1), -11);
    Due.tell(x, 0, 4, 0, 11, 10, -1, 1);
    Due.due("cardsBy unlike", x.cardsBy(0, 0, -1, 1), -13);
    Due.due("cardsBy unlike", x.cardsBy(0, 1, 0, 0), -13);
    Due.due("cardsBy outside", x.cardsBy(0, 2, -1, 2), -12);
    Due.due("cardsBy outside", x.cardsBy(0, 2, 6, 1), -12);
    Due.due("cardsBy outside", x.cardsBy(0, 2, Integer.MAX_VALUE, 40), -12);
    Due.due("cardsBy outside", x.cardsBy(0, 2, Integer.MIN_VALUE, 40), -12);
    Due.due("cardsBy none", x.cardsBy(0, 2, 6, 0), 0);
    Due.due("nothing went by", x.count(2), 0);
    Due.due("cardsBy(0, 2, 0, 6)", x.cardsBy(0, 2, 0, 6), 3);
    Due.due("4", x.at(0), 4);
    Due.due("10", x.at(1), 10);
    Due.due("1", x.at(2), 1);
    Due.due("cardsBy over the end", x.cardsBy(0, 2, 3, 4), -12);
    Due.due("what stood ahead", x.count(2), 5);
    Due.due("cardsBy(0, 2, 5, 1)", x.cardsBy(0, 2, 5, 1), 1);
    x.sheet(1, 0, 40);
    for (int i = 0; i < 40; i++) x.cell(1, i, 7);
    Due.due("forty", x.cardsBy(1, 0, 0, 40), 40);
    Due.due("the row fills", x.cardsBy(1, 0, 0, 40), 14);
    Due.due("the row is full", x.cardsBy(1, 0, 0, 40), 0);
    Due.due("count(2)", x.count(2), 60);
    Due.due("full, and outside", x.cardsBy(1, 0, 39, 2), -12);
  }

  private static void takes() {
    FiftyOneCards x = new FiftyOneCards();
    for (int kind = 0; kind < 5; kind++) x.head(kind * 10, 5, 0);
    x.card(9);
    boolean[][] is = new boolean[6][6];
    int[] above = {0, 0, 0, 1, 2, 0};
    for (int k = 0; k < 6; k++) {
      is[k][k] = true;
      is[k][above[k]] = true;
      is[k][0] = true;
    }
    for (int h = 0; h < 5; h++) {
      for (int kind = 0; kind < 6; kind++) {
        Due.due("taken(" + h + ", " + kind + ")", x.taken(h, kind), is[h][kind] ? h : -13);
      }
      Due.due("taken(" + h + ", 6)", x.taken(h, 6), -13);
    }
    for (int kind = 0; kind < 6; kind++) Due.due("a card as a head", x.taken(5, kind), -13);
    Due.due("taken(5, 6)", x.taken(5, 6), 9);
    Due.due("taken(6, 6)", x.taken(6, 6), -11);
    Due.due("taken(64, 0)", x.taken(64, 0), -11);
    Due.due("taken(65, 6)", x.taken(65, 6), -12);
    Due.due("taken(-1, 6)", x.taken(-1, 6), -12);
    Due.due("taken(-1, 7)", x.taken(-1, 7), -2);
    Due.due("taken(0, -1)", x.taken(0, -1), -2);
    for (int i = 2; i <= 60; i++) x.card(i % 10 + 1);
    Due.due("taken(64, 6)", x.taken(64, 6), 1);
    FiftyOneCards y = new FiftyOneCards();
    Due.due("taken(0, 6) of none", y.taken(0, 6), -11);
    y.head(53, 5, 0);
    Due.due("an AGAIN as an AGAIN", y.taken(0, 5), 0);
    Due.due("an AGAIN as a HEAD", y.taken(0, 0), 0);
    for (int kind = 1; kind < 5; kind++) Due.due("an AGAIN as another", y.taken(0, kind), -13);
    Due.due("taken(1, 0)", y.taken(1, 0), -11);
  }

  public static void main(String[] args) {
    judges();
    kindsBy();
    beginsBy();
    lawsBy();
    whoseBy();
    films();
    draws();
    oddsOf();
    images();
    sheets();
    cells();
    copies();
    cardsBySheet();
    takes();
    Due.end("SayingsAndHostTest");
  }
}
