/** Promises 1 to 10: a new object, the pack, the row. */
public final class PackAndRowTest {
  /** A pack of 52, and just these in the row. */
  private static void row(FiftyOneCards x, int... cards) {
    x.deal(1);
    x.fill(1, 0);
    x.deal(52);
    for (int v : cards) x.card(v);
  }

  private static void isRow(String when, FiftyOneCards x, int... cards) {
    Due.due(when + ": count(2)", x.count(2), cards.length);
    for (int i = 0; i < cards.length; i++) Due.due(when + ": at(" + i + ")", x.at(i), cards[i]);
    Due.due(when + ": at(" + cards.length + ")", x.at(cards.length), -6);
  }

  private static void newObject() {
    FiftyOneCards x = new FiftyOneCards();
    int[] counts = {0, 10, 0, 1, 0, 0};
    for (int i = 0; i < counts.length; i++) Due.due("new: count(" + i + ")", x.count(i), counts[i]);
    Due.due("new: at(0)", x.at(0), -6);
    Due.due("new: told(0, 0)", x.told(0, 0), -5);
    Due.due("new: back()", x.back(), -3);
    for (int s = 0; s < 4; s++) Due.due("new: cell(" + s + ", 0, 0)", x.cell(s, 0, 0), -11);
    Due.due("new: count(-1)", x.count(-1), -2);
    Due.due("new: count(6)", x.count(6), -2);
  }

  private static void counts() {
    FiftyOneCards x = new FiftyOneCards();
    x.head(0, 1, 0);
    x.head(0, 1, 0);
    x.deal(7);
    x.card(3);
    Due.read(x, "first a;second b;says b;");
    x.force(1);
    Due.feedAll(x, "first");
    int[] counts = {2, 7, 1, 2, 1, 5};
    for (int i = 0; i < counts.length; i++) Due.due("count(" + i + ")", x.count(i), counts[i]);
  }

  private static void deals() {
    FiftyOneCards x = new FiftyOneCards();
    Due.due("deal(0)", x.deal(0), -2);
    Due.due("deal(53)", x.deal(53), -2);
    Due.due("deal(-1)", x.deal(-1), -2);
    Due.due("count(1)", x.count(1), 10);
    Due.due("deal(52)", x.deal(52), 10);
    row(x, 9, 52, 3, 10, 3, 11);
    Due.due("deal(10)", x.deal(10), 52);
    isRow("deal(10)", x, 9, 3, 10, 3);
    Due.due("deal(20)", x.deal(20), 10);
    isRow("deal(20)", x, 9, 3, 10, 3);
    Due.due("deal(1)", x.deal(1), 20);
    isRow("deal(1)", x);
  }

  private static void cards() {
    FiftyOneCards x = new FiftyOneCards();
    Due.due("card(0)", x.card(0), -2);
    Due.due("card(11)", x.card(11), -2);
    Due.due("card(10)", x.card(10), 1);
    Due.due("card(1)", x.card(1), 2);
    Due.due("card(1)", x.card(1), 3);
    isRow("card", x, 10, 1, 1);
    for (int i = 4; i <= 60; i++) Due.due("card(5)", x.card(5), i);
    Due.due("card(5) of a full row", x.card(5), -4);
    Due.due("card(11) of a full row", x.card(11), -2);
    Due.due("count(2)", x.count(2), 60);
  }

  private static void fills() {
    FiftyOneCards x = new FiftyOneCards();
    x.deal(4);
    x.card(2);
    for (int[] bad : new int[][] {{0, 0}, {5, 0}, {-2, 0}, {1, 2}, {1, -1}, {-1, 2}}) {
      Due.due("fill(" + bad[0] + ", " + bad[1] + ")", x.fill(bad[0], bad[1]), -2);
    }
    isRow("refused fill", x, 2);
    Due.due("fill(-1, 0)", x.fill(-1, 0), 4);
    isRow("fill(-1, 0)", x, 1, 2, 3, 4);
    Due.due("fill(-1, 1)", x.fill(-1, 1), 4);
    isRow("fill(-1, 1)", x, 4, 3, 2, 1);
    Due.due("fill(2, 0)", x.fill(2, 0), 3);
    isRow("fill(2, 0)", x, 1, 3, 4);
    Due.due("fill(4, 1)", x.fill(4, 1), 3);
    isRow("fill(4, 1)", x, 3, 2, 1);
    x.deal(1);
    Due.due("fill(1, 0)", x.fill(1, 0), 0);
    isRow("fill(1, 0) of one card", x);
  }

  private static void places() {
    FiftyOneCards x = new FiftyOneCards();
    row(x, 8, 7);
    Due.due("at(-1)", x.at(-1), -6);
    Due.due("at(60)", x.at(60), -6);
    Due.due("at(least)", x.at(Integer.MIN_VALUE), -6);
    isRow("at", x, 8, 7);
  }

  private static void turns() {
    FiftyOneCards x = new FiftyOneCards();
    Due.due("turn(3) of none", x.turn(3), -2);
    for (int how = 0; how <= 2; how++) Due.due("turn of none", x.turn(how), -1);
    row(x, 1, 2, 3, 4);
    Due.due("turn(-1)", x.turn(-1), -2);
    Due.due("turn(0)", x.turn(0), 4);
    isRow("turn(0)", x, 4, 3, 2, 1);
    Due.due("turn(1)", x.turn(1), 3);
    isRow("turn(1)", x, 3, 2, 1, 4);
    Due.due("turn(2)", x.turn(2), 4);
    Due.due("turn(2)", x.turn(2), 1);
    isRow("turn(2)", x, 1, 4, 3, 2);
    row(x, 8);
    for (int how = 0; how <= 2; how++) Due.due("turn of one", x.turn(how), 8);
    row(x, 5, 6, 7);
    Due.due("turn(0) of three", x.turn(0), 7);
    isRow("turn(0) of three", x, 7, 6, 5);
  }

  private static void missingOnes() {
    FiftyOneCards x = new FiftyOneCards();
    x.deal(5);
    x.card(2);
    x.card(4);
    x.card(2);
    int[] due = {1, 3, 5, -1, -1};
    for (int k = 0; k < due.length; k++) Due.due("missing(" + k + ")", x.missing(k), due[k]);
    Due.due("missing(51)", x.missing(51), -1);
    Due.due("missing(52)", x.missing(52), -2);
    Due.due("missing(-1)", x.missing(-1), -2);
    x.deal(52);
    x.fill(52, 1);
    Due.due("missing(0)", x.missing(0), 52);
  }

  private static void truths(String when, FiftyOneCards x, int... due) {
    for (int i = 0; i < due.length; i++) Due.due(when + ": truth(" + i + ")", x.truth(i), due[i]);
    Due.due(when + ": truth(8)", x.truth(8), -2);
    Due.due(when + ": truth(-1)", x.truth(-1), -2);
  }

  private static void truths() {
    FiftyOneCards x = new FiftyOneCards();
    truths("none", x, 10, 0, -1, 0, 0, -1, 0, 0);
    row(x, 3, 5, 5, 3, 9);
    x.deal(9);
    truths("3 5 5 3 9", x, 6, 3, 3, 2, 0, 5, 25, 149);
    x.deal(5);
    truths("3 5 5 3", x, 3, 2, 3, 2, 0, 5, 16, 68);
    x.card(5);
    truths("3 5 5 3 5", x, 3, 2, 5, 3, 1, 5, 21, 93);
    row(x, 7);
    truths("7", x, 51, 1, 7, 1, 1, -1, 7, 49);
    row(x, 1, 52, 1);
    truths("1 52 1", x, 50, 2, 1, 2, 1, 1, 54, 2706);
    row(x, 6, 6, 4, 4);
    truths("6 6 4 4", x, 50, 2, 4, 2, 0, 6, 20, 104);
    row(x, 52, 52);
    truths("52 52", x, 51, 1, 52, 2, 1, 52, 104, 5408);
  }

  private static void twoOnes() {
    FiftyOneCards x = new FiftyOneCards();
    Due.due("two(2)", x.two(2), -2);
    Due.due("two(-1)", x.two(-1), -2);
    Due.due("two(0) of none", x.two(0), -1);
    Due.due("two(1) of none", x.two(1), 10);
    for (int v = 1; v <= 10; v++) if (v != 3 && v != 8) x.card(v);
    Due.due("two(0) without 3, 8", x.two(0), 308);
    Due.due("two(1) without 3, 8", x.two(1), 3);
    row(x, 3, 4);
    x.deal(4);
    Due.due("two(0) without 1, 2", x.two(0), 102);
    Due.due("two(1) without 1, 2", x.two(1), 1);
    // 1 and 10 are missing, but one 5 came as 4 would: a sum and squares that no pair has.
    row(x, 2, 3, 5, 5, 6, 7, 8, 9);
    x.deal(10);
    Due.due("two(0) of a wrong row", x.two(0), -1);
    x.fill(4, 0);
    Due.due("two(0), one missing", x.two(0), -1);
    Due.due("two(1), one missing", x.two(1), 10);
    x.deal(2);
    x.fill(-1, 0);
    x.card(2);
    Due.due("two(0), too many came", x.two(0), -1);
    x.deal(52);
    x.fill(51, 0);
    Due.due("two(0) without 51", x.two(0), -1);
    x.deal(50);
    x.deal(52);
    Due.due("two(0) without 51, 52", x.two(0), 5152);
    // The sum is 2 too low, the squares too: 1 and 1, but the other one is to be greater.
    row(x, 5, 5, 1, 1, 1);
    x.deal(5);
    Due.due("two(0), twice the same", x.two(0), -1);
    // The sum is 6 too low, the squares 26: 1 and 5, but the pack has no 5.
    row(x, 1, 1, 1, 1);
    x.deal(4);
    Due.due("two(0), the other one no card", x.two(0), -1);
    x.deal(5);
    x.fill(2, 1);
    Due.due("two(1), one missing of five", x.two(1), 5);
  }

  public static void main(String[] args) {
    newObject();
    counts();
    deals();
    cards();
    fills();
    places();
    turns();
    missingOnes();
    truths();
    twoOnes();
    Due.end("PackAndRowTest");
  }
}
