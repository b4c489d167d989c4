import java.lang.reflect.Method;
import java.util.HashMap;
import java.util.Map;
import java.util.regex.Matcher;
import java.util.regex.Pattern;

/**
 * Calls written as the document writes them, so that a test reads as a sentence of it does:
 * "card(7) = 3" answers 3; "card(7)" only sets up, and may not be refused (an answer below -1).
 * Short ways of more calls: "read TEXT = 1", "tape TEXT = 9", "law TEXT", "row 3 4 5", "isrow 3 4 5",
 * "bytes 0: 4 5", "shorts 0: 4 5", "ints 0: 4 5", "times 60: card(7)".
 */
final class Steps {
  private static final Map<String, Method> CALLS = new HashMap<>();
  private static final Pattern CALL = Pattern.compile("(\\w+)\\(([^)]*)\\)");

  static {
    for (Method m : FiftyOneCards.class.getDeclaredMethods()) CALLS.put(m.getName(), m);
  }

  private Steps() {}

  /** What is not as it should be of these steps, or null. */
  static String wrong(FiftyOneCards x, String... steps) {
    for (String step : steps) {
      String wrong = wrongOf(x, step);
      if (wrong != null) return wrong;
    }
    return null;
  }

  private static String wrongOf(FiftyOneCards x, String step) {
    String start = step.split("[ (]")[0];
    int sign = step.lastIndexOf(" = ");
    boolean hasDue = sign >= 0;
    String rest = step.substring(Math.min(step.length(), start.length() + 1), hasDue ? sign : step.length());
    switch (start) {
      case "read": return unlike(step, hasDue, Due.read(x, rest), hasDue ? number(step.substring(sign + 3)) : 0);
      case "tape": return unlike(step, hasDue, Due.feedAll(x, rest), hasDue ? number(step.substring(sign + 3)) : 0);
      case "law": return law(x, step.substring(4));
      case "row": return row(x, rest);
      case "isrow": return isRow(x, step, rest);
      case "bytes": return sheet(x, 0, rest);
      case "shorts": return sheet(x, 1, rest);
      case "ints": return sheet(x, 2, rest);
      case "times": return times(x, rest + (hasDue ? step.substring(sign) : ""));
      default:
        return unlike(step, hasDue, answer(x, step), hasDue ? number(step.substring(sign + 3)) : 0);
    }
  }

  private static String unlike(String step, boolean hasDue, long got, long want) {
    if (hasDue && got != want) return step + ", but it answered " + got;
    return !hasDue && got < -1 ? step + " was refused: " + got : null;
  }

  private static String law(FiftyOneCards x, String text) {
    int t = Due.read(x, text);
    return t < 0 ? "law " + text + " was refused: " + t : unlike("force(" + t + ")", false, x.force(t), 0);
  }

  private static String row(FiftyOneCards x, String cards) {
    int pack = x.count(1);
    x.deal(1);
    x.fill(1, 0);
    x.deal(pack);
    for (int v : numbers(cards)) if (x.card(v) < 0) return "row " + cards + ": no " + v;
    return null;
  }

  private static String isRow(FiftyOneCards x, String step, String cards) {
    int[] due = numbers(cards);
    if (x.count(2) != due.length) return step + ", but there are " + x.count(2);
    for (int i = 0; i < due.length; i++) if (x.at(i) != due[i]) return step + ", but at(" + i + ") is " + x.at(i);
    return x.at(due.length) == -6 ? null : step + ", but there are more";
  }

  private static String sheet(FiftyOneCards x, int sort, String told) {
    int s = Integer.parseInt(told.split(":")[0].trim());
    int[] cells = numbers(told.split(":", 2)[1]);
    if (x.sheet(s, sort, cells.length) != 1) return "no sheet " + told;
    for (int i = 0; i < cells.length; i++) if (x.cell(s, i, cells[i]) != 1) return "no cell " + i + " of " + told;
    return null;
  }

  private static String times(FiftyOneCards x, String told) {
    String[] parts = told.split(": ", 2);
    for (int i = Integer.parseInt(parts[0].trim()); i > 0; i--) {
      String wrong = wrongOf(x, parts[1]);
      if (wrong != null) return wrong;
    }
    return null;
  }

  /** What a call answers, as a long. */
  static long answer(FiftyOneCards x, String call) {
    Matcher m = CALL.matcher(call);
    if (!m.find() || !CALLS.containsKey(m.group(1))) throw new IllegalArgumentException("no call: " + call);
    int[] given = numbers(m.group(2));
    Object[] args = new Object[given.length];
    for (int i = 0; i < given.length; i++) args[i] = given[i];
    try {
      return ((Number) CALLS.get(m.group(1)).invoke(x, args)).longValue();
    } catch (ReflectiveOperationException e) {
      throw new IllegalStateException(call, e);
    }
  }

  private static int[] numbers(String told) {
    String trimmed = told.trim();
    if (trimmed.isEmpty()) return new int[0];
    String[] parts = trimmed.split("[, ]+");
    int[] all = new int[parts.length];
    for (int i = 0; i < parts.length; i++) all[i] = (int) number(parts[i]);
    return all;
  }

  private static long number(String told) {
    switch (told.trim()) {
      case "NO": return FiftyOneCards.NO;
      case "LEAST": return Integer.MIN_VALUE;
      case "MOST": return Integer.MAX_VALUE;
      default: return Long.parseLong(told.trim());
    }
  }
}
