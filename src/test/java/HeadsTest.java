/** Promises 18 to 28: what heads say and keep, and whether it is right. */
public final class HeadsTest {
  private static final long NO = -4611686018427387904L;

  /** A pack of 52, one head (BITS 16) by a text, and a row. */
  private static FiftyOneCards with(String text, int kindMore, int first, int... cards) {
    FiftyOneCards x = new FiftyOneCards();
    x.deal(52);
    Due.due("text " + text, Due.read(x, text), 1);
    x.force(1);
    x.head(kindMore, 16, first);
    for (int v : cards) x.card(v);
    return x;
  }

  /** The sum less all, right from the least card on alone. */
  private static final String ASCENDING = "first a-item-9*(item<b);second item;says a;";

  private static void says() {
    FiftyOneCards x = with("first b;second a;says 1000*a+b-n*item+0-place;", 0, 7, 5, 6, 7);
    // 7 0, 0 7, 7 0, 0 7; item of says is 0, place is 3.
    Due.due("say(0)", x.say(0), 7 - 3);
    Due.due("say(1)", x.say(1), -1000005);
    Due.due("say(-1)", x.say(-1), -1000005);
    x.set(0, 2, 3);
    Due.due("say(0) of second 3", x.say(0), 3000 + 7 - 3);
    x = with("first a*item;second b;says a*a;", 0, 1, 52, 20);
    Due.due("above the bound", x.say(0), 1000000);
    x = with("first a*item;second b;says 0-a*a;", 0, 1, 52, 20);
    Due.due("below the bound", x.say(0), -1000000);
    x = with("first a;second b;says 1000*1000*a+b;", 0, 1);
    Due.due("just the bound", x.say(0), 1000000);
    x = with("first a+n;second b+more+place;says a*100+b;", 3, 1, 1, 1, 1);
    Due.due("n, more, place", x.say(0), (1 + 3 * 52) * 100 + 9 + 0 + 1 + 2);
    x = with("first item*10+place;second more;says a+place*1000;", 3, 1, 9, 8);
    Due.due("item, place", x.say(0), 2081);
    // The lowest bits, also as one begins: 3 of them.
    x = with("first a-item;second b+1;says a*10+b;", 0, 13, 7);
    x.set(0, 0, 3);
    x.set(0, 2, 15);
    Due.due("13 less 7 of 3 bits, 15 and 1", x.say(0), (5 - 7 + 8) * 10);
    x.turn(0);
    x.deal(6);
    Due.due("13, 15 of 3 bits", x.say(0), 57);
  }

  private static void keeps() {
    FiftyOneCards x = with("first a+item;second b*2+1;says a;", 0, 100, 1, 2, 3);
    int[] a = {100, 101, 103, 106};
    int[] b = {0, 1, 3, 7};
    for (int n = 0; n <= 3; n++) {
      Due.due("keep(0, " + n + ", 0)", x.keep(0, n, 0), a[n]);
      Due.due("keep(0, " + n + ", 1)", x.keep(0, n, 1), b[n]);
    }
    Due.due("keep n 4", x.keep(0, 4, 0), -7);
    Due.due("keep n -1", x.keep(0, -1, 0), -7);
    Due.due("keep what 2", x.keep(0, 0, 2), -7);
    Due.due("keep what -1", x.keep(0, 0, -1), -7);
    Due.due("keep(1, 9, 9)", x.keep(1, 9, 9), -5);
    Due.due("keep(-1, 0, 0)", x.keep(-1, 0, 0), -5);
    // Of the last of three goings.
    x = with("first a+item;second b+1;says a;", 55, 100, 1, 2, 3);
    Due.due("again: keep(0, 0, 0)", x.keep(0, 0, 0), 112);
    Due.due("again: keep(0, 2, 0)", x.keep(0, 2, 0), 115);
    Due.due("again: keep(0, 2, 1)", x.keep(0, 2, 1), 8);
    Due.due("again: say(0)", x.say(0), 118);
  }

  /** The places that a head of a kind sees, as bits, of six. */
  private static int seen(int kindMore) {
    FiftyOneCards x = with("first a+(place=0)+2*(place=1)+4*(place=2)+8*(place=3)+16*(place=4)+32*(place=5)"
        + ";second b+1;says a;", kindMore, 0, 1, 1, 1, 1, 1, 1);
    return x.say(0);
  }

  private static void kindsSee() {
    Due.due("HEAD sees", seen(3), 63);
    Due.due("SLOW 0 sees", seen(10), 63 - 2 - 8 - 32);
    Due.due("SLOW 1 sees", seen(11), 63 - 4 - 32);
    Due.due("SLOW 2 sees", seen(12), 63 - 8);
    Due.due("SLOW 9 sees", seen(19), 63);
    Due.due("DOZING 0 sees", seen(30), 63 - 2 - 8 - 32);
    Due.due("DOZING 2 sees", seen(32), 63 - 8);
    Due.due("DOZING 3 sees", seen(33), 63 - 16 - 1);
    Due.due("DOZING 5 sees", seen(35), 63 - 1);
    Due.due("DOZING 6 sees", seen(36), 63 - 1 - 2);
    Due.due("DOZING 9 sees", seen(39), 63 - 1 - 2 - 4);
    Due.due("SLIPPING 0 sees", seen(20), 63 + 2);
    Due.due("AGAIN 0 sees twice", seen(50), 126);
    Due.due("AGAIN 4 sees twice", seen(54), 126);
    Due.due("AGAIN 5 sees thrice", seen(55), 189);
    Due.due("AGAIN 9 sees thrice", seen(59), 189);
  }

  private static void kindsKeep() {
    // Meant are 0, 0, .. : a SLIPPING keeps 1 at each place that modulo (more and 3) is more and 2.
    FiftyOneCards x = with("first 10*a;second b+1;says a;", 20, 0, 1, 1, 1, 1, 1, 1);
    int[] slipping = {0, 0, 0, 1, 10, 100, 1001};
    for (int n = 0; n < 7; n++) Due.due("SLIPPING 0 keeps", x.keep(0, n, 0), slipping[n]);
    x = with("first 10*a;second b+1;says a;", 22, 0, 1, 1, 1, 1, 1, 1);
    int[] slippingMore = {0, 0, 0, 0, 0, 1, 10};
    for (int n = 0; n < 7; n++) Due.due("SLIPPING 2 keeps", x.keep(0, n, 0), slippingMore[n]);
    // A ROUNDING does not round as it begins; 1 more may make even what was odd.
    x = with("first a+item;second b+item;says a;", 40, 5, 1, 1, 1, 2, 1);
    int[] rounding = {5, 6, 6, 8, 10, 10};
    int[] second = {0, 1, 2, 3, 5, 6};
    for (int n = 0; n < 6; n++) {
      Due.due("ROUNDING 0 keeps first", x.keep(0, n, 0), rounding[n]);
      Due.due("ROUNDING 0 keeps second", x.keep(0, n, 1), second[n]);
    }
    x = with("first a-item;second b;says a;", 49, 0, 1);
    Due.due("ROUNDING keeps of -1", x.say(0), 65534);
    x = with("first a+item;second b;says a;", 20, 65533, 1, 1);
    x.card(1);
    Due.due("SLIPPING is cut behind its 1 more", x.say(0), 1);
  }

  private static void rights() {
    FiftyOneCards x = new FiftyOneCards();
    x.head(0, 8, 55);
    x.head(0, 3, 55);
    x.head(0, 16, 54);
    Due.due("right(0, 0)", x.right(0, 0), 1023);
    Due.due("right(1, 0)", x.right(1, 0), 127);
    Due.due("right(2, 1)", x.right(2, 1), 0);
    Due.due("right(3, 0)", x.right(3, 0), NO);
    Due.due("right(-1, 0)", x.right(-1, 0), NO);
    Due.due("right(0, 2)", x.right(0, 2), NO);
    Due.due("right(0, -1)", x.right(0, -1), NO);
    x.deal(52);
    x.set(0, 0, 16);
    x.set(0, 1, 1378);
    Due.due("right(0, 0) of 52", x.right(0, 0), (1L << 52) - 1);
    // The last card of the pack is what it says: BUT 3 of three it is 2, by the other way 1.
    x = with("first item;second b;says a;", 0, 9);
    x.deal(3);
    Due.due("the last one, way 0", x.right(0, 0), 0);
    // The last card and 1: BUT 3 that is 3; by way 1 it is 2 BUT 2.
    x = with("first item;second b;says a+1;", 0, 9);
    x.deal(3);
    Due.due("the last one and 1, way 0", x.right(0, 0), 4);
    Due.due("the last one and 1, way 1", x.right(0, 1), 2);
    x = with("first item;second b;says a-1;", 0, 9);
    x.deal(3);
    Due.due("the last one less 1, way 1", x.right(0, 1), 1);
    Due.due("the last one less 1, way 0", x.right(0, 0), 2);
    x.deal(1);
    Due.due("of one card", x.right(0, 0), 0);
    x.set(0, 1, 2);
    Due.due("of one card", x.right(0, 0), 1);
  }

  private static void leasts() {
    FiftyOneCards x = new FiftyOneCards();
    x.head(0, 1, 55);
    x.head(0, 16, 54);
    Due.due("least(0)", x.least(0), 4);
    Due.due("least(1)", x.least(1), -1);
    Due.due("least(2)", x.least(2), -5);
    Due.due("least(-1)", x.least(-1), -5);
    Due.due("bits stay", x.told(0, 2), 1);
    x.deal(1);
    x.set(0, 1, 1);
    Due.due("least(0) of one card", x.least(0), 1);
    x.deal(7);
    x.set(0, 1, 28);
    Due.due("least(0) of seven", x.least(0), 3);
    x.deal(8);
    x.set(0, 1, 36);
    Due.due("least(0) of eight", x.least(0), 4);
    x = with("first a+item;second b+1;says 55-a;", 0, 0);
    x.deal(10);
    Due.due("least(0) of a sum", x.least(0), 6);
    x = with(ASCENDING, 0, 6);
    x.deal(3);
    Due.due("least(0), way 0", x.least(0), 2);
    x = with("first a;second b;says 1-(a<8*4096);", 0, 32768);
    x.deal(1);
    Due.due("least(0) of 16", x.least(0), 16);
  }

  private static void begins() {
    FiftyOneCards x = new FiftyOneCards();
    x.head(0, 16, 3);
    Due.due("begin(0, 0)", x.begin(0, 0), 55);
    Due.due("begin(0, 1)", x.begin(0, 1), 10);
    Due.due("begin(1, 5)", x.begin(1, 5), -5);
    Due.due("begin(-1, 0)", x.begin(-1, 0), -5);
    Due.due("begin(0, 2)", x.begin(0, 2), -7);
    Due.due("begin(0, -1)", x.begin(0, -1), -7);
    Due.due("first stays", x.told(0, 3), 3);
    x.set(0, 0, 5);
    Due.due("begin(0, 0), 5 bits", x.begin(0, 0), 55 - 32);
    x.deal(13);
    Due.due("begin(0, 0) of 91", x.begin(0, 0), 91 - 64);
    x.set(0, 0, 16);
    x.deal(14);
    Due.due("begin(0, 0) of 105", x.begin(0, 0), 105);
    Due.due("begin(0, 1) of 105", x.begin(0, 1), 14);
    x = with("first a;second b;says 4;", 0, 9);
    Due.due("begin(0, 0), all alike", x.begin(0, 0), 0);
    Due.due("begin(0, 1), all alike", x.begin(0, 1), 1);
    x.deal(3);
    Due.due("begin(0, 0), none right", x.begin(0, 0), 0);
    Due.due("begin(0, 1), none right", x.begin(0, 1), 0);
    x = with("first a;second b;says a-94;", 0, 9);
    Due.due("begin by 95", x.begin(0, 0), 95);
    x = with("first a;second b;says a-98;", 0, 9);
    Due.due("begin by 99", x.begin(0, 0), 99);
    x = with("first a;second b;says a-99;", 0, 9);
    x.deal(13);
    Due.due("begin by 100: none", x.begin(0, 1), 0);
    // 3 less the first card: from the least on that is right BUT 1, BUT 2.
    x = with("first a+(place=0)*item;second b;says 3-a;", 0, 9);
    x.deal(3);
    Due.due("begin, way 0", x.begin(0, 0), 0);
    Due.due("begin, way 0", x.begin(0, 1), 2);
    x = with("first a;second b;says a-1377;", 0, 9);
    Due.due("begin by the sum", x.begin(0, 0), 1378);
  }

  private static void sames() {
    FiftyOneCards x = with("first a*2+item;second b;says a;", 0, 0, 1, 2, 1);
    Due.due("same(0, 0)", x.same(0, 0), 1);
    Due.due("same(0, 1)", x.same(0, 1), 0);
    Due.due("same(0, 2)", x.same(0, 2), -7);
    Due.due("same(0, -1)", x.same(0, -1), -7);
    Due.due("same(1, 2)", x.same(1, 2), -5);
    Due.due("same(-1, 0)", x.same(-1, 0), -5);
    Due.due("the row stays", x.at(1), 2);
    x.card(3);
    Due.due("same(0, 0) of 1 2 1 3", x.same(0, 0), 0);
    // Of the first one alone: last one first is otherwise, one ahead too.
    x = with("first a+(place=0)*item;second b;says a;", 0, 0, 4, 4, 5);
    Due.due("same(0, 0) of 4 4 5", x.same(0, 0), 0);
    Due.due("same(0, 1) of 4 4 5", x.same(0, 1), 1);
  }

  private static void shares() {
    FiftyOneCards x = with("first a+item;second b;says a+1000*place;", 0, 0, 1, 2, 3, 4, 5);
    x.head(0, 16, 500);
    Due.due("share(0, 1)", x.share(0, 1), 3009 + 2506);
    Due.due("share(1, 0)", x.share(1, 0), 3509 + 2006);
    Due.due("share(0, 0)", x.share(0, 0), 3009 + 2006);
    Due.due("share(2, 0)", x.share(2, 0), -1000005);
    Due.due("share(0, 2)", x.share(0, 2), -1000005);
    Due.due("share(-1, 0)", x.share(-1, 0), -1000005);
    Due.due("share(0, -1)", x.share(0, -1), -1000005);
    // Each has its own: head 1 keeps but 3 bits.
    x.set(1, 0, 3);
    Due.due("share(0, 1) of 3 bits", x.share(0, 1), 3009 + 2000 + (4 + 6) % 8);
    Due.due("share(1, 0) of 3 bits", x.share(1, 0), 3000 + (4 + 9) % 8 + 2006);
    // The places count anew: 0, 1, 2 of three.
    x = with("first a+place*item;second b;says a;", 0, 0, 1, 2, 3, 4, 5);
    Due.due("share by place", x.share(0, 0), 3 + 10 + 4);
    x = with("first a;second b;says 1000*a;", 0, 9999, 1);
    Due.due("share above the bound of one", x.share(0, 0), 2000000);
  }

  private static void statesOf() {
    FiftyOneCards x = new FiftyOneCards();
    x.head(0, 16, 55);
    Due.due("states(0, 3, 0)", x.states(0, 3, 0), 1);
    Due.due("states(0, 3, 1)", x.states(0, 3, 1), 4);
    Due.due("states(0, 3, 3)", x.states(0, 3, 3), 16);
    Due.due("states(0, 1, 3)", x.states(0, 1, 3), 4);
    Due.due("states(0, 0, 3)", x.states(0, 0, 3), -7);
    Due.due("states(0, 7, 3)", x.states(0, 7, 3), -7);
    Due.due("states(0, 1, 4)", x.states(0, 1, 4), -7);
    Due.due("states(0, 1, -1)", x.states(0, 1, -1), -7);
    Due.due("states(1, 7, 9)", x.states(1, 7, 9), -5);
    x.deal(5);
    Due.due("states(0, 6, 1) of five", x.states(0, 6, 1), -7);
    Due.due("states(0, 5, 1) of five", x.states(0, 5, 1), 6);
    x.set(0, 0, 1);
    // First, second of one bit: 1 0; then 0 1, 1 1; then 0 0, 1 0; then 0 1, 1 1.
    Due.due("states of one bit", x.states(0, 2, 3), 4);
    Due.due("states of one bit, one card", x.states(0, 1, 3), 2);
    // All rows are unlike: 1, 6, 36, 216.
    x = with("first a*7+item;second b;says a;", 0, 0);
    Due.due("states, all unlike", x.states(0, 6, 3), 259);
    // The same pair at two places goes on otherwise; an AGAIN goes once here.
    x = with("first a+place;second b;says a;", 50, 7, 9, 9, 9, 9);
    Due.due("states by place", x.states(0, 6, 3), 3);
    // A SLOW 0 does not see at place 1.
    x = with("first a*7+item;second b;says a;", 10, 0);
    Due.due("states of a SLOW, 2", x.states(0, 6, 2), 7);
    Due.due("states of a SLOW, 3", x.states(0, 6, 3), 43);
    x = with("first a*2;second b;says a;", 0, 1);
    Due.due("states from 1 on", x.states(0, 2, 3), 4);
    x.set(0, 1, 0);
    Due.due("states from 0 on", x.states(0, 2, 3), 1);
    // Unlike in the second alone.
    x = with("first a;second b*7+item;says a;", 0, 0);
    Due.due("states by second", x.states(0, 6, 2), 43);
  }

  private static void drops() {
    FiftyOneCards x = with("first a+item;second b;says 0-a;", 0, 0, 3, 9, 2, 9);
    Due.due("drop(0, 0)", x.drop(0, 0), 1);
    Due.due("drop(0, 1)", x.drop(0, 1), -14);
    Due.due("drop(1, 9)", x.drop(1, 9), -1000005);
    Due.due("drop(-1, 0)", x.drop(-1, 0), -1000005);
    Due.due("drop(0, 2)", x.drop(0, 2), -1000007);
    Due.due("drop(0, -1)", x.drop(0, -1), -1000007);
    x.deal(1);
    Due.due("drop(0, 0) of none", x.drop(0, 0), -1);
    Due.due("drop(0, 1) of none", x.drop(0, 1), -1000000);
    Due.due("drop(0, 2) of none", x.drop(0, 2), -1000007);
    x = with("first a;second b;says -1000*1000*2;", 0, 0, 3, 9);
    Due.due("drop(0, 0), all at the bound", x.drop(0, 0), 0);
    Due.due("drop(0, 1), all at the bound", x.drop(0, 1), -1000000);
    // Places move up: of 1 5 1 without 0 the 5 has place 0.
    x = with("first a+(place=0)*item;second b;says a*10+place;", 0, 0, 1, 5, 1);
    Due.due("drop(0, 0) by place", x.drop(0, 0), 0);
    Due.due("drop(0, 1) by place", x.drop(0, 1), 52);
  }

  private static void oftens() {
    FiftyOneCards x = with("first a+(place=0)*item;second b;says a;", 0, 0, 4, 4, 5);
    Due.due("often(0, 1, 4)", x.often(0, 1, 4), 1);
    Due.due("often(0, 2, 4)", x.often(0, 2, 4), 2);
    Due.due("often(0, 3, 4)", x.often(0, 3, 4), 2);
    Due.due("often(0, 3, 5)", x.often(0, 3, 5), 1);
    Due.due("often(0, 2, 5)", x.often(0, 2, 5), 0);
    Due.due("often(0, 20, 4)", x.often(0, 20, 4), 14);
    Due.due("often(0, 20, 5)", x.often(0, 20, 5), 6);
    Due.due("often(0, 0, 4)", x.often(0, 0, 4), -7);
    Due.due("often(0, 21, 4)", x.often(0, 21, 4), -7);
    Due.due("often above", x.often(0, 1, 1000001), -7);
    Due.due("often below", x.often(0, 1, -1000001), -7);
    Due.due("often bound", x.often(0, 1, 1000000), 0);
    Due.due("often bound", x.often(0, 1, -1000000), 0);
    Due.due("often(1, 0, 4)", x.often(1, 0, 4), -5);
    Due.due("often(-1, 1, 4)", x.often(-1, 1, 4), -5);
    Due.due("the row stays", x.at(2), 5);
  }

  private static void whos() {
    FiftyOneCards x = new FiftyOneCards();
    Due.due("who(0) of none", x.who(0), -1);
    Due.due("who(1) of none", x.who(1), -1);
    Due.due("who(2)", x.who(2), -2);
    x.head(0, 8, 54);
    Due.due("who(0), right of none", x.who(0), 0);
    Due.due("who(1), right of none", x.who(1), 0);
    x.head(0, 3, 55);
    Due.due("who(0)", x.who(0), 1);
    Due.due("who(1)", x.who(1), 7);
    x.head(0, 8, 55);
    x.head(0, 9, 55);
    Due.due("who(0), of like ones the first", x.who(0), 2);
    Due.due("who(1)", x.who(1), 10);
    Due.due("who(2)", x.who(2), -2);
    Due.due("who(-1)", x.who(-1), -2);
    x = with(ASCENDING, 0, 6);
    x.deal(3);
    Due.due("who(1), way 0", x.who(1), 3);
  }

  public static void main(String[] args) {
    says();
    keeps();
    kindsSee();
    kindsKeep();
    rights();
    leasts();
    begins();
    sames();
    shares();
    statesOf();
    drops();
    oftens();
    whos();
    Due.end("HeadsTest");
  }
}
