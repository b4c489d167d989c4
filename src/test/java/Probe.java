import java.util.ArrayList;
import java.util.List;

/**
 * All that can be seen of an object's state, by some 400 calls. It uses the object up (texts come, rows
 * go), so it is compared with that of a twin: the same state gives the same list.
 */
final class Probe {
  private final FiftyOneCards x;
  private final List<String> seen = new ArrayList<>();

  private Probe(FiftyOneCards x) { this.x = x; }

  static List<String> all(FiftyOneCards x) {
    Probe p = new Probe(x);
    p.packRowHeads("");
    p.tapeAndTexts();
    p.sheets();
    p.see("back()", x.back());
    p.packRowHeads(" behind back()");
    return p.seen;
  }

  private void see(String call, long answer) { seen.add(call + " " + answer); }

  private void packRowHeads(String when) {
    for (int what = 0; what <= 5; what++) see("count(" + what + ")" + when, x.count(what));
    for (int place = 0; place < Math.max(0, x.count(2)); place++) see("at(" + place + ")" + when, x.at(place));
    for (int h = 0; h < Math.max(0, x.count(0)); h++) {
      for (int what = 0; what <= 4; what++) see("told(" + h + ", " + what + ")" + when, x.told(h, what));
    }
  }

  /** What is on the tape shows as it is read: "first 12", say, is a text with what is fed here. */
  private void tapeAndTexts() {
    Due.feedAll(x, ";second 4;says 5;");
    see("text() of the tape", x.text());
    see("count(5) behind it", x.count(5));
    for (int t = 0; t < x.count(3); t++) {
      x.force(t);
      for (int part = 0; part <= 2; part++) see("text " + t + " part " + part, x.asks(part, 1234, 567, 8095));
    }
  }

  /** Its sort, and such of its cells as are cards. */
  private void sheets() {
    for (int s = 0; s <= 3; s++) {
      for (int sort = 0; sort <= 2; sort++) {
        x.deal(1);
        x.fill(1, 0);
        x.deal(52);
        see("sheet " + s + " as of sort " + sort, x.cardsBy(s, sort, 0, 40));
        for (int place = 0; place < x.count(2); place++) see("sheet " + s + " tells " + place, x.at(place));
      }
      see("sheet " + s + " begins", x.cell(s, 0, 1));
      for (int i = 1; i <= 40; i += 3) see("sheet " + s + " has " + i, x.cell(s, i, 1));
    }
  }
}
