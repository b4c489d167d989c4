import java.lang.reflect.Method;
import java.util.ArrayList;
import java.util.Arrays;
import java.util.LinkedHashMap;
import java.util.List;
import java.util.Map;
import java.util.Random;

/** Random runs (of told seeds): the class and the oracle answer alike, and the class never throws. */
public final class OracleTest {
  /** Of each call: how often it comes, and from where to where its numbers ordinarily are. */
  private static final Map<String, int[]> CALLS = new LinkedHashMap<>();

  private static void call(String name, int often, int... ranges) {
    int[] spec = Arrays.copyOf(new int[] {often}, 1 + ranges.length);
    System.arraycopy(ranges, 0, spec, 1, ranges.length);
    CALLS.put(name, spec);
  }

  static {
    call("count", 4, 0, 5);
    call("deal", 4, 1, 52);
    call("card", 12, 1, 52);
    call("fill", 4, -1, 52, 0, 1);
    call("at", 3, 0, 59);
    call("turn", 3, 0, 2);
    call("missing", 3, 0, 51);
    call("truth", 6, 0, 7);
    call("two", 4, 0, 1);
    call("feed", 3, 1, 5, 0, 255, 0, 255, 0, 255, 0, 255, 0, 255);
    call("text", 2);
    call("force", 4, 0, 5);
    call("asks", 6, 0, 2, 0, 65535, 0, 65535, 0, 52599);
    call("head", 6, 0, 59, 1, 16, 0, 65535);
    call("set", 4, 0, 4, 0, 2, 0, 16);
    call("told", 4, 0, 4, 0, 4);
    call("say", 6, 0, 4);
    call("keep", 6, 0, 4, 0, 60, 0, 1);
    call("right", 3, 0, 4, 0, 1);
    call("least", 2, 0, 4);
    call("begin", 1, 0, 4, 0, 1);
    call("same", 4, 0, 4, 0, 1);
    call("share", 4, 0, 4, 0, 4);
    call("states", 4, 0, 4, 1, 6, 0, 3);
    call("drop", 4, 0, 4, 0, 1);
    call("often", 4, 0, 4, 1, 20, -20, 100);
    call("who", 2, 0, 1);
    call("judge", 4, 0, 3, 0, 4);
    call("kinds", 4, 0, 3, 0, 4, 0, 2);
    call("begins", 2, 0, 3, 0, 4, 0, 1);
    call("laws", 3, 0, 3, 0, 4);
    call("whose", 3, 0, 3);
    call("film", 4, 0, 3, 0, 4, 0, 40);
    call("drawn", 4, 0, 99999, 0, 4, 0, 1);
    call("odds", 3, 0, 99999, 1, 30, 0, 4, 0, 1);
    call("image", 2);
    call("back", 2);
    call("sheet", 3, 0, 3, -1, 2, 0, 40);
    call("cell", 6, 0, 3, 0, 40, -5, 60);
    call("copy", 5, 0, 3, 0, 40, 0, 3, 0, 40, 0, 40);
    call("cardsBy", 4, 0, 3, 0, 2, 0, 40, 0, 40);
    call("taken", 4, 0, 64, 0, 6);
  }

  private final Random lot;
  private final FiftyOneCards x = new FiftyOneCards();
  private final Oracle y = new Oracle();
  private final List<String> run = new ArrayList<>();
  private final Map<String, Method> ofX = new LinkedHashMap<>();
  private final Map<String, Method> ofY = new LinkedHashMap<>();
  private final int pack;

  private OracleTest(long seed) {
    lot = new Random(seed);
    pack = lot.nextBoolean() ? 1 + lot.nextInt(12) : 1 + lot.nextInt(52);
    for (Method m : FiftyOneCards.class.getDeclaredMethods()) ofX.put(m.getName(), m);
    for (Method m : Oracle.class.getDeclaredMethods()) if (CALLS.containsKey(m.getName())) ofY.put(m.getName(), m);
  }

  private int number(int from, int to) {
    int[] edges = {from - 1, to + 1, from, to, Integer.MIN_VALUE, Integer.MAX_VALUE, -1, 0, lot.nextInt()};
    if (lot.nextInt(25) == 0) return edges[lot.nextInt(edges.length)];
    if (to - from >= 40 && lot.nextInt(2) == 0) return from + lot.nextInt(1 + Math.min(to - from, pack + 2));
    return from + lot.nextInt(to - from + 1);
  }

  private boolean alike(String name, Object... args) throws Exception {
    Object got = ofX.get(name).invoke(x, args);
    Object want = ofY.get(name).invoke(y, args);
    run.add(name + Arrays.toString(args) + " = " + got);
    if (got.equals(want)) return true;
    System.out.println(String.join("\n", run) + "\n  the oracle answers " + want);
    return false;
  }

  private boolean someText() throws Exception {
    StringBuilder b = new StringBuilder(new TextMaker(lot).text());
    for (int i = lot.nextInt(3); i > 0 && b.length() > 0; i--) {
      if (lot.nextInt(3) == 0) TextMaker.spoil(b, lot);
    }
    int end = Math.min(b.length(), 160);
    for (int i = 0; i < end; i += 5) {
      Object[] args = {Math.min(5, end - i), 0, 0, 0, 0, 0};
      for (int k = 0; k < (int) args[0]; k++) args[1 + k] = (int) b.charAt(i + k);
      if (!alike("feed", args)) return false;
    }
    return alike("text") && alike("force", number(0, 5));
  }

  private boolean goes(int calls) throws Exception {
    List<String> names = new ArrayList<>();
    CALLS.forEach((name, spec) -> { for (int i = 0; i < spec[0]; i++) names.add(name); });
    if (!alike("deal", pack)) return false;
    for (int i = 0; i < 2; i++) if (!alike("head", number(0, 59), number(4, 16), pack * (pack + 1) / 2)) return false;
    while (run.size() < calls) {
      if (lot.nextInt(30) == 0 && !someText()) return false;
      String name = names.get(lot.nextInt(names.size()));
      int[] spec = CALLS.get(name);
      Object[] args = new Object[spec.length / 2];
      for (int k = 0; k < args.length; k++) args[k] = number(spec[1 + 2 * k], spec[2 + 2 * k]);
      if (!alike(name, args)) return false;
    }
    return true;
  }

  public static void main(String[] args) throws Exception {
    int runs = args.length > 0 ? Integer.parseInt(args[0]) : 600;
    int from = args.length > 1 ? Integer.parseInt(args[1]) : 0;
    for (int seed = from; seed < from + runs; seed++) {
      boolean good = new OracleTest(seed).goes(200);
      Due.due("run of seed " + seed, good ? 1 : 0, 1);
      if (!good) break;
    }
    Due.end("OracleTest");
  }
}
