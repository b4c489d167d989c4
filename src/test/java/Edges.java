import java.util.ArrayList;
import java.util.List;

/**
 * Tests of edges. Each has the number of its promise (or the name of its term) and its sentence in its
 * name, which is printed, and an object of its own.
 */
final class Edges {
  private static int tests = 0;
  private static int failed = 0;

  private Edges() {}

  private static void tell(String name, String wrong) {
    tests++;
    if (wrong != null) failed++;
    System.out.println((wrong == null ? "ok     " : "FAILED ") + name + (wrong == null ? "" : ": " + wrong));
  }

  /** On a new object these calls answer so. */
  static void edge(String promise, String sentence, String... steps) {
    tell(promise + ": " + sentence, Steps.wrong(new FiftyOneCards(), steps));
  }

  /** Behind these steps a call is answered so, and changes nothing that a Probe sees. */
  static void still(String promise, String sentence, String[] before, String... calls) {
    FiftyOneCards x = new FiftyOneCards();
    FiftyOneCards twin = new FiftyOneCards();
    String wrong = Steps.wrong(x, before);
    if (wrong == null) wrong = Steps.wrong(twin, before);
    if (wrong == null) wrong = Steps.wrong(x, calls);
    if (wrong == null) wrong = firstUnlike(Probe.all(x), Probe.all(twin));
    tell(promise + ": " + sentence, wrong);
  }

  private static String firstUnlike(List<String> one, List<String> other) {
    for (int i = 0; i < Math.min(one.size(), other.size()); i++) {
      if (!one.get(i).equals(other.get(i))) return "it changed " + one.get(i) + ", was " + other.get(i);
    }
    return one.size() == other.size() ? null : "it changed something";
  }

  /**
   * Each of these numbers, the least and the greatest of all ints too, put for # in the call, is refused
   * so, and nothing is changed: a test each.
   */
  static void outside(String promise, String what, String[] before, String call, String want, int... numbers) {
    List<Integer> all = new ArrayList<>();
    for (int v : numbers) all.add(v);
    all.add(Integer.MIN_VALUE);
    all.add(Integer.MAX_VALUE);
    for (int v : all) {
      still(promise, what + " " + v + " is " + want, before, call.replace("#", String.valueOf(v)) + " = " + want);
    }
  }

  static String[] steps(String... steps) { return steps; }

  static void end(String name) {
    System.out.println(name + ": " + tests + " tests, " + failed + " failed");
    if (failed != 0) System.exit(1);
  }
}
