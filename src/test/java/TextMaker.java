import java.util.Random;

/** Makes texts by the document's grammar, by lot; and spoils them. */
final class TextMaker {
  private static final String[] NAMES = {"a", "b", "item", "place", "n", "more"};
  private static final String[] SPOILS = {"(", ")", ";", "+", "-", "*", "<", "=", "or", "and", "not", "says",
      "first", "second", "a", "ab", "12345", "7", "?", "A", "\t", "\n", "\u00e9", "<=", "- -", "not not"};
  private final Random lot;

  TextMaker(Random lot) { this.lot = lot; }

  private String gap() { return new String[] {" ", "  ", "\n", " "}[lot.nextInt(4)]; }

  String text() {
    String t = "first" + gap() + either(2) + ";second " + either(2) + gap() + ";" + gap() + "says " + either(1) + " ;";
    return lot.nextInt(3) == 0 ? t + gap() : t;
  }

  private String either(int deep) { return lot.nextInt(6) == 0 ? both(deep) + " or " + both(deep) : both(deep); }

  private String both(int deep) { return lot.nextInt(6) == 0 ? not(deep) + " and " + not(deep) : not(deep); }

  private String not(int deep) {
    if (lot.nextInt(8) == 0) return "not " + not(deep);
    return switch (lot.nextInt(6)) {
      case 0 -> sum(deep) + "<" + sum(deep);
      case 1 -> sum(deep) + " = " + sum(deep);
      default -> sum(deep);
    };
  }

  private String sum(int deep) {
    return switch (lot.nextInt(4)) {
      case 0 -> term(deep) + "+" + term(deep);
      case 1 -> term(deep) + " - " + term(deep);
      default -> term(deep);
    };
  }

  private String term(int deep) { return lot.nextInt(4) == 0 ? one(deep) + "*" + one(deep) : one(deep); }

  private String one(int deep) {
    int which = lot.nextInt(10);
    if (which == 0) return "-" + one(deep);
    if (which <= 2 && deep > 0) return "(" + either(deep - 1) + ")";
    if (which <= 4) return String.valueOf(lot.nextInt(which == 3 ? 10 : 10000));
    return NAMES[lot.nextInt(NAMES.length)];
  }

  /** Puts something in, or takes a byte away. */
  static void spoil(StringBuilder text, Random lot) {
    int place = lot.nextInt(text.length());
    if (lot.nextInt(3) == 0) text.deleteCharAt(place);
    else text.insert(place, " " + SPOILS[lot.nextInt(SPOILS.length)] + " ");
  }
}
