/** Every call where there is nothing at all, and where everything is full. */
public final class NothingAndFullEdgesTest {
  /** A new object: the number of the promise, then the call and its answer. */
  private static final String[] NOTHING = {
    "2 count(2) = 0", "2 count(0) = 0", "2 count(5) = 0", "3 deal(10) = 10", "3 deal(1) = 10", "4 card(1) = 1", "5 fill(-1, 0) = 10",
    "5 fill(10, 1) = 9", "6 at(0) = -6", "7 turn(0) = -1", "7 turn(1) = -1", "7 turn(2) = -1", "8 missing(0) = 1", "8 missing(10) = -1",
    "9 truth(0) = 10", "9 truth(2) = -1", "9 truth(4) = 0", "10 two(0) = -1", "10 two(1) = 10", "11 feed(1, 0, 0, 0, 0, 0) = 1",
    "12 text() = -100", "13 force(0) = 0", "14 asks(0, 0, 0, 0) = 0", "14 asks(1, 0, 0, 0) = 1", "14 asks(0, 0, 0, 1000) = -1",
    "15 head(0, 1, 0) = 0", "16 set(0, 0, 1) = -5", "17 told(0, 0) = -5", "18 say(0) = -1000005", "19 keep(0, 0, 0) = -5",
    "20 right(0, 0) = NO", "21 least(0) = -5", "22 begin(0, 0) = -5", "23 same(0, 0) = -5", "24 share(0, 0) = -1000005",
    "25 states(0, 1, 0) = -5", "26 drop(0, 0) = -1000005", "26 drop(0, 1) = -1000005", "27 often(0, 1, 0) = -5", "28 who(0) = -1",
    "28 who(1) = -1", "29 judge(0, 0) = -11", "30 kinds(0, 0, 0) = -11", "31 begins(0, 0, 0) = -11", "32 laws(0, 0) = -11",
    "33 whose(0) = -11", "34 film(0, 0, 0) = -5", "35 drawn(0, 0, 0) = -1000005", "36 odds(0, 1, 0, 0) = NO", "37 image() = 0",
    "38 back() = -3", "39 sheet(0, 0, 0) = 1", "39 sheet(0, -1, 0) = 1", "40 cell(0, 0, 0) = -11", "41 copy(0, 0, 0, 0, 0) = -11",
    "42 cardsBy(0, 0, 0, 0) = -11", "43 taken(0, 0) = -11", "43 taken(5, 6) = -11"};

  /**
   * A PACK of 52; sixty times 52 in THE ROW; five AGAINS of MORE 9 (they go thrice), BITS 16, FIRST and SECOND
   * 65535; six like TEXTS; 160 bytes on THE TAPE; four SHEETS of 40 ints, as HEAD 0 SAYS; AN IMAGE.
   */
  private static final String[] FULLY = {"deal(52)", "times 60: card(52)", "times 5: head(59, 16, 65535)", "set(0, 2, 65535)",
    "set(1, 2, 65535)", "set(2, 2, 65535)", "set(3, 2, 65535)", "set(4, 2, 65535)", "times 5: read first a - item;second b + 1;says a;",
    "times 32: feed(5, 97, 97, 97, 97, 97)", "film(0, 0, 40)", "film(1, 0, 40)", "film(2, 0, 40)", "film(3, 0, 40)", "image()"};

  // BUT CARD v such a HEAD SAYS 65535 less thrice (1378 less v): 61401 and 3 times v.
  private static final String[] FULL = {
    "2 count(0) = 5", "2 count(1) = 52", "2 count(2) = 60", "2 count(3) = 6", "2 count(5) = 160", "3 deal(52) = 52", "3 deal(51) = 52",
    "4 card(52) = -4", "5 fill(-1, 0) = 52", "5 fill(52, 1) = 51", "6 at(59) = 52", "6 at(60) = -6", "7 turn(0) = 52", "7 turn(1) = 52",
    "7 turn(2) = 52", "8 missing(0) = 1", "8 missing(50) = 51", "8 missing(51) = -1", "9 truth(3) = 60", "9 truth(4) = 1", "9 truth(5) = 52",
    "9 truth(6) = 3120", "9 truth(7) = 162240", "10 two(0) = -1", "10 two(1) = 52", "11 feed(1, 97, 0, 0, 0, 0) = -4", "12 text() = -4",
    "13 force(5) = 0", "14 asks(0, 65535, 65535, 52599) = 65483", "14 asks(1, 65535, 65535, 52599) = 65536", "15 head(0, 1, 0) = -4",
    "16 set(4, 0, 16) = 16", "16 set(4, 2, 65535) = 65535", "17 told(4, 4) = 65535", "18 say(4) = 56175", "19 keep(4, 60, 0) = 56175",
    "19 keep(4, 60, 1) = 179", "19 keep(4, 0, 0) = 59295", "19 keep(4, 0, 1) = 119", "20 right(4, 0) = 0", "21 least(4) = -1",
    "22 begin(4, 0) = 0", "22 begin(4, 1) = 0", "23 same(4, 0) = 1", "23 same(4, 1) = 1", "24 share(0, 4) = 121710", "25 states(4, 6, 3) = 34",
    "26 drop(4, 0) = 0", "26 drop(4, 1) = 56331", "27 often(4, 20, 56175) = 20", "28 who(0) = 0", "28 who(1) = 0", "29 judge(3, 4) = -1",
    "30 kinds(3, 4, 0) = 32", "30 kinds(3, 4, 1) = 992", "30 kinds(3, 4, 2) = 65536", "31 begins(3, 4, 0) = 0", "31 begins(3, 4, 1) = -1",
    "32 laws(3, 4) = 63", "33 whose(3) = 31", "34 film(3, 4, 40) = 40", "34 film(3, 4, 41) = -7", "35 drawn(0, 4, 0) = 16",
    "35 drawn(0, 4, 1) = 61449", "36 odds(99999, 30, 4, 0) = 0", "36 odds(99999, 30, 4, 1) = 1", "37 image() = 5", "38 back() = 5",
    "39 sheet(3, 2, 40) = 1", "39 sheet(3, 2, 41) = -2", "40 cell(3, 39, 5) = 1", "40 cell(3, 40, 5) = -12", "41 copy(0, 0, 3, 0, 40) = 40",
    "41 copy(0, 0, 3, 1, 40) = -12", "42 cardsBy(3, 2, 0, 40) = 0", "42 cardsBy(3, 2, 1, 40) = -12", "43 taken(4, 5) = 4",
    "43 taken(64, 6) = 52", "43 taken(65, 6) = -12"};

  private static void each(String[] calls, String when, String... before) {
    for (String told : calls) {
      int cut = told.indexOf(' ');
      String call = told.substring(cut + 1);
      String[] steps = java.util.Arrays.copyOf(before, before.length + 1);
      steps[before.length] = call;
      Edges.edge(told.substring(0, cut) + " " + call.substring(0, call.indexOf('(')), when + " " + call, steps);
    }
  }

  public static void main(String[] args) {
    each(NOTHING, "where there is nothing,");
    each(FULL, "where everything is full,", FULLY);
    Edges.end("NothingAndFullEdgesTest");
  }
}
