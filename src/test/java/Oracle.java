import java.util.ArrayList;
import java.util.Arrays;
import java.util.Collections;
import java.util.HashMap;
import java.util.HashSet;
import java.util.LinkedHashMap;
import java.util.List;
import java.util.Map;
import java.util.Set;
import java.util.function.Function;
import java.util.regex.Matcher;
import java.util.regex.Pattern;
import java.util.stream.Collectors;
import java.util.stream.IntStream;

/**
 * The document once more, written apart from the class and with all of the Java library: lists that
 * are never changed, trees of functions, a class for each KIND. OracleTest holds the two together.
 */
final class Oracle {
  /** What a text's names stand for. */
  record Named(int a, int b, int item, int place, int n, int more) {}

  interface Expr extends Function<Named, Integer> {}

  record Law(Expr first, Expr second, Expr says) {}

  record Pair(int a, int b) {}

  static final class Fault extends RuntimeException {
    final int place;
    Fault(int place) { this.place = place; }
  }

  // ---- texts

  record Token(String sign, int place) {}

  static final class Parser {
    private static final Pattern TOKENS = Pattern.compile("[a-z]+|[0-9]+|[ \\n]+|.", Pattern.DOTALL);
    private static final Set<String> KNOWN = Set.of("first", "second", "says", "or", "and", "not", "a", "b",
        "item", "place", "n", "more", "(", ")", ";", "+", "-", "*", "<", "=");
    private final List<Token> tokens = new ArrayList<>();
    private int next = 0;
    private int open = 0;

    Parser(String tape) {
      Matcher m = TOKENS.matcher(tape);
      while (m.find()) {
        if (!m.group().matches("[ \\n]+")) tokens.add(new Token(m.group(), m.start()));
      }
      tokens.add(new Token("", tape.length()));
    }

    private Token peek() {
      Token t = tokens.get(next);
      boolean known = t.sign.isEmpty() || KNOWN.contains(t.sign) || t.sign.matches("[0-9]{1,4}");
      if (!known) throw new Fault(t.place);
      return t;
    }

    private boolean accept(String sign) {
      if (!peek().sign.equals(sign)) return false;
      next++;
      return true;
    }

    private void need(String sign) {
      if (!accept(sign)) throw new Fault(peek().place);
    }

    Law law() {
      need("first"); Expr first = or(); need(";");
      need("second"); Expr second = or(); need(";");
      need("says"); Expr says = or(); need(";");
      if (!peek().sign.isEmpty()) throw new Fault(peek().place);
      return new Law(first, second, says);
    }

    private static int bit(boolean b) { return b ? 1 : 0; }

    private Expr or() {
      Expr left = and();
      while (accept("or")) { Expr l = left, r = and(); left = x -> bit(l.apply(x) != 0 | r.apply(x) != 0); }
      return left;
    }

    private Expr and() {
      Expr left = not();
      while (accept("and")) { Expr l = left, r = not(); left = x -> bit(l.apply(x) != 0 & r.apply(x) != 0); }
      return left;
    }

    /** Counts an opener that was just accepted; it is refused if five are open. */
    private void opened() {
      if (open == 5) throw new Fault(tokens.get(next - 1).place);
      open++;
    }

    private Expr not() {
      if (accept("not")) { opened(); Expr e = not(); open--; return x -> bit(e.apply(x) == 0); }
      Expr l = sum();
      if (accept("<")) { Expr r = sum(); return x -> bit(l.apply(x) < r.apply(x)); }
      if (accept("=")) { Expr r = sum(); return x -> bit(l.apply(x).intValue() == r.apply(x)); }
      return l;
    }

    private Expr sum() {
      Expr left = term();
      while (true) {
        Expr l = left;
        if (accept("+")) { Expr r = term(); left = x -> l.apply(x) + r.apply(x); }
        else if (accept("-")) { Expr r = term(); left = x -> l.apply(x) - r.apply(x); }
        else return left;
      }
    }

    private Expr term() {
      Expr left = one();
      while (accept("*")) { Expr l = left, r = one(); left = x -> l.apply(x) * r.apply(x); }
      return left;
    }

    private Expr one() {
      if (accept("-")) { opened(); Expr e = one(); open--; return x -> -e.apply(x); }
      if (accept("(")) { opened(); Expr e = or(); need(")"); open--; return e; }
      Token t = peek();
      Expr e = switch (t.sign) {
        case "a" -> Named::a;
        case "b" -> Named::b;
        case "item" -> Named::item;
        case "place" -> Named::place;
        case "n" -> Named::n;
        case "more" -> Named::more;
        default -> {
          if (!t.sign.matches("[0-9]+")) throw new Fault(t.place);
          int v = Integer.parseInt(t.sign);
          yield x -> v;
        }
      };
      next++;
      return e;
    }
  }

  // ---- kinds

  static class Head {
    final int more, bits, first, second;
    Head(int more, int bits, int first, int second) {
      this.more = more; this.bits = bits; this.first = first; this.second = second;
    }
    int kind() { return 0; }
    boolean sees(int place) { return true; }
    int keeps(int meant, int place) { return meant; }
    int goes() { return 1; }
    final int cut(int v) { return (int) Math.floorMod((long) v, 1L << bits); }

    static Head of(int kind, int more, int bits, int first, int second) {
      return switch (kind) {
        case 0 -> new Head(more, bits, first, second);
        case 1 -> new Slow(more, bits, first, second);
        case 2 -> new Slipping(more, bits, first, second);
        case 3 -> new Dozing(more, bits, first, second);
        case 4 -> new Rounding(more, bits, first, second);
        case 5 -> new Again(more, bits, first, second);
        default -> throw new IllegalStateException();
      };
    }
    Head kind(int k) { return of(k, more, bits, first, second); }
    Head more(int m) { return of(kind(), m, bits, first, second); }
    Head bits(int b) { return of(kind(), more, b, first, second); }
    Head first(int f) { return of(kind(), more, bits, f, second); }
    Head second(int s) { return of(kind(), more, bits, first, s); }
  }

  static class Slow extends Head {
    Slow(int more, int bits, int first, int second) { super(more, bits, first, second); }
    @Override int kind() { return 1; }
    @Override boolean sees(int place) { return place % (more + 2) != more + 1; }
  }

  static class Slipping extends Head {
    Slipping(int more, int bits, int first, int second) { super(more, bits, first, second); }
    @Override int kind() { return 2; }
    @Override int keeps(int meant, int place) { return place % (more + 3) == more + 2 ? meant + 1 : meant; }
  }

  static final class Dozing extends Slow {
    Dozing(int more, int bits, int first, int second) { super(more, bits, first, second); }
    @Override int kind() { return 3; }
    @Override boolean sees(int place) { return super.sees(place) && !(place < more / 3); }
  }

  static final class Rounding extends Slipping {
    Rounding(int more, int bits, int first, int second) { super(more, bits, first, second); }
    @Override int kind() { return 4; }
    @Override int keeps(int meant, int place) {
      int k = super.keeps(meant, place);
      return k % 2 != 0 ? k - 1 : k;
    }
  }

  static final class Again extends Head {
    Again(int more, int bits, int first, int second) { super(more, bits, first, second); }
    @Override int kind() { return 5; }
    @Override int goes() { return super.goes() + 1 + more / 5; }
  }

  // ---- state

  record Image(int pack, List<Integer> row, List<Head> heads, int law) {}

  private int pack = 10;
  private List<Integer> row = List.of();
  private List<Head> heads = new ArrayList<>();
  private final List<Law> texts = new ArrayList<>();
  private int law = 0;
  private String tape = "";
  private Image image = null;
  private final Map<Integer, Object> sheets = new HashMap<>();

  Oracle() {
    texts.add(new Parser("first a - item ; second b + 1 ; says a ;").law());
  }

  private static boolean in(long v, long from, long to) { return from <= v && v <= to; }
  private Head headOf(int h) { return in(h, 0, heads.size() - 1) ? heads.get(h) : null; }
  private List<Integer> packList() { return IntStream.rangeClosed(1, pack).boxed().collect(Collectors.toList()); }

  private List<Integer> but(int card, int way) {
    List<Integer> l = packList();
    l.remove((Integer) card);
    if (way == 1) Collections.reverse(l);
    return l;
  }

  private static List<Integer> turned(List<Integer> l, int how) {
    List<Integer> t = new ArrayList<>(l);
    if (how == 0) Collections.reverse(t);
    else Collections.rotate(t, how == 1 ? -1 : 1);
    return t;
  }

  private Pair step(Head h, Law law, Pair kept, int card, int place) {
    if (!h.sees(place)) return kept;
    Named x = new Named(kept.a, kept.b, card, place, pack, h.more);
    return new Pair(h.cut(h.keeps(law.first.apply(x), place)), h.cut(law.second.apply(x)));
  }

  private Pair go(Head h, Law law, Pair kept, List<Integer> cards) {
    for (int p = 0; p < cards.size(); p++) kept = step(h, law, kept, cards.get(p), p);
    return kept;
  }

  private Pair start(Head h) { return new Pair(h.cut(h.first), h.cut(h.second)); }

  private static int bound(int v) { return v < -1000000 ? -1000000 : v > 1000000 ? 1000000 : v; }

  private int saying(Head h, Law law, List<Integer> cards) {
    Pair kept = start(h);
    for (int g = 0; g < h.goes(); g++) kept = go(h, law, kept, cards);
    return bound(law.says.apply(new Named(kept.a, kept.b, 0, cards.size(), pack, h.more)));
  }

  private int saying(Head h, List<Integer> cards) { return saying(h, texts.get(law), cards); }
  private long rightCards(Head h) { return packList().stream().filter(v -> saying(h, but(v, 0)) == v).count(); }

  // ---- the pack, the row

  public int count(int what) {
    int[] all = {heads.size(), pack, row.size(), texts.size(), law, tape.length()};
    return in(what, 0, 5) ? all[what] : -2;
  }

  public int deal(int n) {
    if (!in(n, 1, 52)) return -2;
    int had = pack;
    pack = n;
    row = row.stream().filter(v -> v <= n).collect(Collectors.toList());
    return had;
  }

  public int card(int v) {
    if (!in(v, 1, pack)) return -2;
    if (row.size() == 60) return -4;
    List<Integer> l = new ArrayList<>(row);
    l.add(v);
    row = l;
    return l.size();
  }

  public int fill(int but, int way) {
    if (!(but == -1 || in(but, 1, pack)) || !in(way, 0, 1)) return -2;
    row = but(but, way);
    return row.size();
  }

  public int at(int place) { return in(place, 0, row.size() - 1) ? row.get(place) : -6; }

  public int turn(int how) {
    if (!in(how, 0, 2)) return -2;
    row = turned(row, how);
    return row.isEmpty() ? -1 : row.get(0);
  }

  public int missing(int k) {
    if (!in(k, 0, 51)) return -2;
    List<Integer> l = packList();
    l.removeAll(row);
    return k < l.size() ? l.get(k) : -1;
  }

  public int truth(int what) {
    if (!in(what, 0, 7)) return -2;
    Map<Integer, Integer> times = new LinkedHashMap<>();
    int twice = -1;
    for (int v : row) {
      times.merge(v, 1, Integer::sum);
      if (times.get(v) == 2 && twice == -1) twice = v;
    }
    int most = times.values().stream().max(Integer::compare).orElse(0);
    int which = times.keySet().stream().filter(v -> times.get(v) == most).min(Integer::compare).orElse(-1);
    int[] all = {pack - times.size(), times.size(), which, most, most * 2 > row.size() ? 1 : 0, twice,
        row.stream().mapToInt(v -> v).sum(), row.stream().mapToInt(v -> v * v).sum()};
    return all[what];
  }

  public int two(int what) {
    if (!in(what, 0, 1)) return -2;
    int s = packList().stream().mapToInt(v -> v).sum() - truth(6);
    int q = packList().stream().mapToInt(v -> v * v).sum() - truth(7);
    for (int v : packList()) {
      for (int w : packList()) {
        if (w > v && v + w == s && v * v + w * w == q) return what == 0 ? 100 * v + w : v;
      }
    }
    return what == 0 ? -1 : pack;
  }

  // ---- the law, heads

  public int feed(int n, int a, int b, int c, int d, int e) {
    int[] five = {a, b, c, d, e};
    if (!in(n, 1, 5) || !Arrays.stream(five).allMatch(v -> in(v, 0, 255))) return -2;
    if (tape.length() + n > 160) return -4;
    for (int i = 0; i < n; i++) tape += (char) five[i];
    return tape.length();
  }

  public int text() {
    if (texts.size() == 6) return -4;
    String was = tape;
    tape = "";
    try {
      texts.add(new Parser(was).law());
      return texts.size() - 1;
    } catch (Fault f) {
      return -100 - f.place;
    }
  }

  public int force(int t) {
    if (!in(t, 0, texts.size() - 1)) return -2;
    int was = law;
    law = t;
    return was;
  }

  public int asks(int part, int a, int b, int itemPlaceMore) {
    if (!in(part, 0, 2) || !in(a, 0, 65535) || !in(b, 0, 65535) || itemPlaceMore < 0) return -2;
    int item = itemPlaceMore / 1000, place = itemPlaceMore % 1000 / 10, more = itemPlaceMore % 10;
    if (item > 52 || place > 59) return -2;
    Law l = texts.get(law);
    Expr e = part == 0 ? l.first : part == 1 ? l.second : l.says;
    return bound(e.apply(new Named(a, b, item, place, pack, more)));
  }

  public int head(int kindMore, int many, int first) {
    if (!in(kindMore, 0, 59) || !in(many, 1, 16) || !in(first, 0, 65535)) return -2;
    if (heads.size() == 5) return -4;
    heads.add(Head.of(kindMore / 10, kindMore % 10, many, first, 0));
    return heads.size() - 1;
  }

  public int set(int h, int what, int v) {
    Head head = headOf(h);
    if (head == null) return -5;
    if (!in(what, 0, 2) || (what == 0 ? !in(v, 1, 16) : !in(v, 0, 65535))) return -7;
    heads.set(h, what == 0 ? head.bits(v) : what == 1 ? head.first(v) : head.second(v));
    return what == 0 ? head.bits : what == 1 ? head.first : head.second;
  }

  public int told(int h, int what) {
    Head x = headOf(h);
    if (x == null) return -5;
    int[] all = {x.kind(), x.more, x.bits, x.first, x.second};
    return in(what, 0, 4) ? all[what] : -7;
  }

  // ---- the row goes by

  public int say(int h) { return headOf(h) == null ? -1000005 : saying(headOf(h), row); }

  public int keep(int h, int n, int what) {
    Head head = headOf(h);
    if (head == null) return -5;
    if (!in(n, 0, row.size()) || !in(what, 0, 1)) return -7;
    Pair kept = start(head);
    for (int g = 0; g < head.goes() - 1; g++) kept = go(head, texts.get(law), kept, row);
    kept = go(head, texts.get(law), kept, row.subList(0, n));
    return what == 0 ? kept.a : kept.b;
  }

  // ---- whether it is right

  public long right(int h, int way) {
    Head head = headOf(h);
    if (head == null || !in(way, 0, 1)) return -4611686018427387904L;
    return packList().stream().filter(v -> saying(head, but(v, way)) == v).mapToLong(v -> 1L << (v - 1)).sum();
  }

  public int least(int h) {
    Head head = headOf(h);
    if (head == null) return -5;
    return IntStream.rangeClosed(1, 16).filter(b -> rightCards(head.bits(b)) == pack).findFirst().orElse(-1);
  }

  public int begin(int h, int what) {
    Head head = headOf(h);
    if (head == null) return -5;
    if (!in(what, 0, 1)) return -7;
    List<Integer> firsts = IntStream.range(0, 100).boxed().collect(Collectors.toList());
    firsts.add(pack * (pack + 1) / 2);
    List<Long> all = firsts.stream().map(f -> rightCards(head.first(f))).collect(Collectors.toList());
    long most = Collections.max(all);
    return what == 0 ? firsts.get(all.indexOf(most)) : (int) most;
  }

  public int same(int h, int how) {
    Head head = headOf(h);
    if (head == null) return -5;
    if (!in(how, 0, 1)) return -7;
    return saying(head, row) == saying(head, turned(row, how)) ? 1 : 0;
  }

  public int share(int h, int g) {
    if (headOf(h) == null || headOf(g) == null) return -1000005;
    List<Integer> even = new ArrayList<>(), odd = new ArrayList<>();
    for (int p = 0; p < row.size(); p++) (p % 2 == 0 ? even : odd).add(row.get(p));
    return saying(headOf(h), even) + saying(headOf(g), odd);
  }

  public int states(int h, int few, int n) {
    Head head = headOf(h);
    if (head == null) return -5;
    if (!in(few, 1, 6) || few > pack || !in(n, 0, 3)) return -7;
    Set<Pair> all = new HashSet<>();
    Set<Pair> now = new HashSet<>(List.of(start(head)));
    all.addAll(now);
    for (int p = 0; p < n; p++) {
      Set<Pair> then = new HashSet<>();
      for (Pair kept : now) for (int v = 1; v <= few; v++) then.add(step(head, texts.get(law), kept, v, p));
      all.addAll(then);
      now = then;
    }
    return all.size();
  }

  public int drop(int h, int what) {
    Head head = headOf(h);
    if (head == null) return -1000005;
    if (!in(what, 0, 1)) return -1000007;
    if (row.isEmpty()) return what == 0 ? -1 : -1000000;
    List<Integer> all = new ArrayList<>();
    for (int p = 0; p < row.size(); p++) {
      List<Integer> l = new ArrayList<>(row);
      l.remove(p);
      all.add(saying(head, l));
    }
    int most = Collections.max(all);
    return what == 0 ? all.indexOf(most) : most;
  }

  public int often(int h, int n, int much) {
    Head head = headOf(h);
    if (head == null) return -5;
    if (!in(n, 1, 20) || !in(much, -1000000, 1000000)) return -7;
    int times = 0;
    List<Integer> l = row;
    for (int i = 0; i < n; i++, l = turned(l, 1)) if (saying(head, l) == much) times++;
    return times;
  }

  public int who(int what) {
    if (!in(what, 0, 1)) return -2;
    if (heads.isEmpty()) return -1;
    List<Long> all = heads.stream().map(this::rightCards).collect(Collectors.toList());
    long most = Collections.max(all);
    return what == 0 ? all.indexOf(most) : (int) most;
  }

  // ---- told sayings

  private static int[] numbers(Object sheet) {
    if (sheet instanceof byte[] b) return IntStream.range(0, b.length).map(i -> b[i]).toArray();
    if (sheet instanceof short[] s) return IntStream.range(0, s.length).map(i -> s[i]).toArray();
    return (int[]) sheet;
  }

  private int refusal(int s) {
    if (!in(s, 0, 3)) return -2;
    if (sheets.get(s) == null) return -11;
    return numbers(sheets.get(s)).length > pack ? -2 : 0;
  }

  private int refusal(int s, int h) {
    if (refusal(s) != 0) return refusal(s);
    return headOf(h) == null ? -5 : 0;
  }

  private int unlike(int s, Head head, Law law) {
    int[] told = numbers(sheets.get(s));
    return IntStream.range(0, told.length).filter(i -> saying(head, law, but(i + 1, 0)) != told[i])
        .findFirst().orElse(-1);
  }

  private boolean fits(int s, Head head) { return unlike(s, head, texts.get(law)) == -1; }

  public int judge(int s, int h) {
    return refusal(s, h) != 0 ? refusal(s, h) : unlike(s, headOf(h), texts.get(law));
  }

  public int kinds(int s, int h, int sort) {
    if (refusal(s, h) != 0) return refusal(s, h);
    Head x = headOf(h);
    return switch (sort) {
      case 0 -> IntStream.rangeClosed(0, 5).filter(v -> fits(s, x.kind(v))).map(v -> 1 << v).sum();
      case 1 -> IntStream.rangeClosed(0, 9).filter(v -> fits(s, x.more(v))).map(v -> 1 << v).sum();
      case 2 -> IntStream.rangeClosed(1, 16).filter(v -> fits(s, x.bits(v))).map(v -> 1 << v).sum();
      default -> -7;
    };
  }

  public int begins(int s, int h, int what) {
    if (refusal(s, h) != 0) return refusal(s, h);
    if (!in(what, 0, 1)) return -7;
    int[] good = IntStream.rangeClosed(0, 200).filter(f -> fits(s, headOf(h).first(f))).toArray();
    return what == 0 ? good.length : good.length == 0 ? -1 : good[0];
  }

  public int laws(int s, int h) {
    if (refusal(s, h) != 0) return refusal(s, h);
    return IntStream.range(0, texts.size()).filter(t -> unlike(s, headOf(h), texts.get(t)) == -1)
        .map(t -> 1 << t).sum();
  }

  public int whose(int s) {
    if (refusal(s) != 0) return refusal(s);
    return IntStream.range(0, heads.size()).filter(h -> fits(s, heads.get(h))).map(h -> 1 << h).sum();
  }

  public int film(int s, int h, int n) {
    if (!in(s, 0, 3)) return -2;
    if (headOf(h) == null) return -5;
    if (!in(n, 0, Math.min(40, pack))) return -7;
    sheets.put(s, IntStream.rangeClosed(1, n).map(v -> saying(headOf(h), but(v, 0))).toArray());
    return n;
  }

  // ---- rows by lot

  private List<Integer> draw(int seed) {
    long lot = (seed + 1L) * 48271 % 2147483647;
    List<Integer> l = but((int) (lot % pack) + 1, 0);
    for (int k = l.size() - 1; k >= 1; k--) {
      lot = lot * 48271 % 2147483647;
      Collections.swap(l, k, (int) (lot % (k + 1)));
    }
    return l;
  }

  private int absent(List<Integer> l) {
    return packList().stream().filter(v -> !l.contains(v)).findFirst().get();
  }

  public int drawn(int seed, int h, int what) {
    if (headOf(h) == null) return -1000005;
    if (!in(seed, 0, 99999) || !in(what, 0, 1)) return -1000007;
    List<Integer> l = draw(seed);
    return what == 0 ? absent(l) : saying(headOf(h), l);
  }

  public long odds(int seed, int seeds, int h, int part) {
    if (!in(seed, 0, 99999) || !in(seeds, 1, 30) || headOf(h) == null || !in(part, 0, 1)) {
      return -4611686018427387904L;
    }
    long hits = IntStream.range(0, seeds).mapToObj(i -> draw(seed + i))
        .filter(l -> saying(headOf(h), l) == absent(l)).count();
    long gcd = java.math.BigInteger.valueOf(hits).gcd(java.math.BigInteger.valueOf(seeds)).longValue();
    return (part == 0 ? hits : seeds) / gcd;
  }

  public int image() {
    image = new Image(pack, row, new ArrayList<>(heads), law);
    return heads.size();
  }

  public int back() {
    if (image == null) return -3;
    pack = image.pack;
    row = image.row;
    heads = new ArrayList<>(image.heads);
    law = image.law;
    return heads.size();
  }

  // ---- the host

  public int sheet(int s, int sort, int n) {
    if (!in(s, 0, 3) || !in(sort, -1, 2) || (sort >= 0 && n > 40)) return -2;
    if (sort == -1) { sheets.remove(s); return 1; }
    try {
      sheets.put(s, sort == 0 ? new byte[n] : sort == 1 ? (Object) new short[n] : new int[n]);
      return 1;
    } catch (NegativeArraySizeException e) {
      return -14;
    }
  }

  public int cell(int s, int i, int v) {
    if (!in(s, 0, 3)) return -2;
    try {
      Object sheet = java.util.Objects.requireNonNull(sheets.get(s));
      if (sheet instanceof byte[] b) b[i] = (byte) v;
      else if (sheet instanceof short[] t) t[i] = (short) v;
      else ((int[]) sheet)[i] = v;
      return 1;
    } catch (NullPointerException e) {
      return -11;
    } catch (ArrayIndexOutOfBoundsException e) {
      return -12;
    }
  }

  public int copy(int s, int i, int other, int j, int n) {
    if (!in(s, 0, 3) || !in(other, 0, 3)) return -2;
    try {
      System.arraycopy(sheets.get(s), i, sheets.get(other), j, n);
      return n;
    } catch (NullPointerException e) {
      return -11;
    } catch (ArrayStoreException e) {
      return -13;
    } catch (IndexOutOfBoundsException e) {
      return -12;
    }
  }

  public int cardsBy(int s, int sort, int from, int n) {
    if (!in(s, 0, 3) || !in(sort, 0, 2) || !in(n, 0, 40)) return -2;
    Object sheet = sheets.get(s);
    if (sheet == null) return -11;
    if (sort != (sheet instanceof byte[] ? 0 : sheet instanceof short[] ? 1 : 2)) return -13;
    int went = 0;
    try {
      for (int i = 0; i < n; i++) if (card(numbers(sheet)[from + i]) >= 0) went++;
      return went;
    } catch (ArrayIndexOutOfBoundsException e) {
      return -12;
    }
  }

  public int taken(int i, int kind) {
    if (!in(kind, 0, 6)) return -2;
    Object[] all = new Object[65];
    for (int h = 0; h < heads.size(); h++) all[h] = heads.get(h);
    for (int p = 0; p < row.size(); p++) all[5 + p] = row.get(p);
    if (!in(i, 0, 64)) return -12;
    if (all[i] == null) return -11;
    List<Class<?>> classes = List.of(Head.class, Slow.class, Slipping.class, Dozing.class, Rounding.class,
        Again.class, Integer.class);
    if (!classes.get(kind).isInstance(all[i])) return -13;
    return kind == 6 ? (Integer) all[i] : i;
  }
}
