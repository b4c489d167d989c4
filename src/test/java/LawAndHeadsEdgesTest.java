import java.util.ArrayList;
import java.util.List;

/** Edges of promises 11 to 17, and of the terms TEXT, FAULT, TEXTS, HEADS. */
public final class LawAndHeadsEdgesTest {
  private static final String GOOD = "first a;second b;says a;";
  private static final String[] SOME = Edges.steps("deal(12)", "head(13, 7, 100)", "head(25, 16, 65535)", "set(1, 2, 500)",
      "law first a+item;second b-place;says a*2+b;", "read first 5;second 6;says 7;", "row 3 12 3", "image()",
      "shorts 2: 9 8 7", "tape first 12");
  private static final String[] FIVE = Edges.steps("head(0, 1, 0)", "head(19, 16, 65535)", "head(20, 5, 9)", "head(39, 6, 8)",
      "head(50, 7, 7)");
  private static final String[] SIX_TEXTS = Edges.steps("times 5: law first a;second b;says n;");

  private static void edge(String promise, String sentence, String... steps) { Edges.edge(promise, sentence, steps); }

  private static String shown(String text) {
    StringBuilder b = new StringBuilder("'");
    for (char c : text.toCharArray()) b.append(c < 32 || c > 126 ? "\\" + (int) c : String.valueOf(c));
    return b.append("'").toString();
  }

  private static void good(String term, String sentence, String text) {
    edge(term, sentence + " " + shown(text), "read " + text + " = 1", "count(3) = 2", "count(5) = 0");
  }

  private static void fault(String sentence, String text, int place) {
    edge("FAULT", sentence + " " + shown(text), "read " + text + " = " + (-100 - place), "count(3) = 1", "count(5) = 0");
  }

  /** An E as first of a text, and the rest good. */
  private static String by(String e) { return "first " + e + ";second b;says a;"; }

  private static void value(String term, String sentence, String e, int want) {
    edge(term, sentence + " " + e, "law first " + e + ";second 0;says 0;", "asks(0, 100, 20, 52599) = " + want);
  }

  private static void tokens() {
    good("TEXT", "160 bytes at most:", "first a;second b;says 0" + "+1".repeat(68) + ";");
    good("TOKENS", "no blanks need stand between", "first(a);second(b);says(a);");
    good("TOKENS", "blanks 32 and 10 may stand between, ahead, behind", "\n \nfirst \n a\n;\n\nsecond  b ; says\na ;\n \n");
    good("TOKENS", "a NUMBER ends where no digit stands", by("12or 3*4and 5"));
    good("TOKENS", "a NUMBER of 1 digit", by("0"));
    good("TOKENS", "a NUMBER of 4 digits", by("9999"));
    good("TOKENS", "a NUMBER of 4 digits, 0 ahead", by("0000"));
    fault("a NUMBER of 5 digits", by("12345"), 6);
    fault("a NUMBER of 5 digits, 0 ahead", by("00001"), 6);
    fault("a NUMBER of very many digits", by("a+" + "9".repeat(90)), 8);
    fault("a NUMBER is cut by a blank", by("1 2"), 8);
    fault("a WORD as long as can be", "firsta;", 0);
    fault("a WORD as long as can be", by("nota"), 6);
    fault("a WORD as long as can be", by("aa"), 6);
    fault("a WORD as long as can be", by("az"), 6);
    fault("a WORD as long as can be", by("a orb"), 8);
    fault("a WORD is cut by a blank", "fir st a;", 0);
    fault("a WORD, then a NUMBER", by("a1"), 7);
    fault("a NUMBER, then a WORD", by("1a"), 7);
    fault("< and = are two SIGNS", by("a<=b"), 8);
    fault("a WORD that is neither KEY nor NAME, at the end too", "first it", 6);
    fault("a WORD that is neither KEY nor NAME, in place of a KEY", "firs", 0);
    for (String word : new String[] {"c", "z", "ab", "ite", "items", "plac", "places", "m", "mor", "mores", "e", "no", "nots",
        "an", "ands", "o", "ors", "firs", "firsts", "say", "sayss", "seconds", "text", "true"}) {
      fault("a WORD that is neither KEY nor NAME", by("b+" + word), 8);
    }
    for (String big : new String[] {"A", "B", "N", "Item", "iTem", "OR"}) {
      fault("a big letter belongs to no WORD", by("b+" + big), 8);
    }
  }

  /** Each byte that begins no TOKEN, alone and behind a NAME, a NUMBER. */
  private static void bytes() {
    for (int b = 0; b <= 255; b++) {
      boolean letter = b >= 'a' && b <= 'z';
      boolean digit = b >= '0' && b <= '9';
      if (letter || digit || b == 32 || b == 10 || "();+-*<=".indexOf(b) >= 0) continue;
      String fed = "feed(1, " + b + ", 0, 0, 0, 0)";
      edge("FAULT", "byte " + b + " begins none", "tape first ", fed, "tape ;", "text() = -106",
          "tape first a", fed, "tape ;", "text() = -107", "tape first 12", fed, "tape ;", "text() = -108",
          fed, "text() = -100", "tape " + GOOD, fed, "text() = " + (-100 - GOOD.length()), "count(3) = 1");
    }
    for (int b = 'a'; b <= 'z'; b++) {
      String fed = "feed(1, " + b + ", 0, 0, 0, 0)";
      edge("TOKENS", "letter " + (char) b + " belongs to a WORD", "tape first a", fed, "tape ;", "text() = -106");
    }
    for (int b = '0'; b <= '9'; b++) {
      String fed = "feed(1, " + b + ", 0, 0, 0, 0)";
      edge("TOKENS", "digit " + (char) b + " belongs to a NUMBER", "tape first 9", fed, "tape ;second b;says a;", "text() = 1",
          "force(1)", "asks(0, 0, 0, 0) = " + (90 + b - '0'));
    }
  }

  /** A full TAPE's last TOKEN ends where THE TAPE does. */
  private static void full() {
    String start = "first " + "1+".repeat(75);
    fault("it ends with a NAME, too early, and is full", start + " +a", 157);
    fault("it ends with a NAME, too early, and is full", start + "   a", 160);
    fault("it ends with a NUMBER, too early, and is full", start + "1234", 160);
    fault("it ends with a SIGN, too early, and is full", start + "2*3*", 160);
    fault("it ends with blanks, too early, and is full", start + "2   ", 160);
    fault("a WORD that is none ends a full TAPE", start + "iten", 156);
    fault("a WORD that is one ends a full TAPE", start + "item", 160);
    fault("too long a NUMBER ends a full TAPE", start.substring(0, 154) + " 12345", 155);
  }

  private static void grammar() {
    fault("first stands first", "second a;", 0);
    fault("first stands first", "a;", 0);
    fault("first stands first", ";", 0);
    fault("second stands second", "first a;says b;", 8);
    fault("second stands second", "first a;first b;", 8);
    fault("says stands third", "first a;second b;second a;", 17);
    fault("an E must stand", "first ;", 6);
    fault("an E must stand", "first a;second;", 14);
    fault("an E must stand", "first a;second b;says ;", 22);
    fault("a KEY is no E", by("first"), 6);
    fault("a KEY is no E", by("a+says"), 8);
    fault("a KEY is no E", by("a or second"), 11);
    fault("a ; must stand", "first a second b;", 8);
    fault("a ; must stand", "first a;second b says a;", 17);
    for (String token : new String[] {";", "(", ")", "+", "-", "*", "<", "=", "first", "second", "says", "or", "and", "not", "a", "b", "item",
        "place", "n", "more", "0", "7"}) {
      fault("nothing stands behind", GOOD + token, 24);
    }
    fault("nothing stands behind: a blank and a NAME", GOOD + " a", 25);
    fault("nothing stands behind: a whole TEXT", GOOD + GOOD, 24);
    fault("two NAMES", by("a b"), 8);
    fault("or ahead", by("or a"), 6);
    fault("or behind", by("a or"), 10);
    fault("or twice", by("a or or b"), 11);
    fault("and ahead", by("and a"), 6);
    fault("and behind", by("a and"), 11);
    fault("and, or", by("a and or b"), 12);
    fault("not behind", by("a not"), 8);
    fault("not alone", by("not"), 9);
    fault("not is no ONE: behind +", by("a+not b"), 8);
    fault("not is no ONE: behind *", by("a*not b"), 8);
    fault("not is no ONE: behind -", by("-not b"), 7);
    fault("not is no SUM: behind <", by("a<not b"), 8);
    fault("not is no SUM: behind =", by("a=not b"), 8);
    fault("one < alone", by("a<b<n"), 9);
    fault("one = alone", by("a=b=n"), 9);
    fault("= and <, one alone", by("a=b<n"), 9);
    fault("behind not one < alone, too", by("not a<b<n"), 13);
    fault("behind not not one = alone, too", by("not not a<b=n"), 17);
    good("TEXT", "in ( ) another < may stand", by("(a<b)<(b=n)"));
    fault("< ahead", by("<a"), 6);
    fault("= behind", by("a="), 8);
    fault("+ ahead", by("+a"), 6);
    fault("+ behind", by("a+"), 8);
    fault("+ twice", by("a++b"), 8);
    fault("- behind", by("a-"), 8);
    fault("* ahead", by("*a"), 6);
    fault("* behind", by("a*"), 8);
    fault("* twice", by("a**b"), 8);
    fault("( ) with no E", by("()"), 7);
    fault("( not ended", by("(a"), 8);
    fault(") not begun", by("a)"), 7);
    fault("( behind a NAME", by("a(b)"), 7);
    fault("first of several", by("a ? 12345 c"), 8);
    fault("first of several", by("a b 12345"), 8);
    good("TEXT", "{ or AND }, { and NOT }", by("a or b or n and item and place or more"));
    good("TEXT", "not NOT", by("not not a and not b=n or not not not a<b"));
    good("TEXT", "{ + or - TERM }, { * ONE }", by("a+b-n*item*place-more+3"));
    good("TEXT", "- ONE, ( E )", by("a--b*-(not a or b)"));
  }

  /** Each way in which a TEXT can end too early: the FAULT is at its size. */
  private static void early() {
    List<String> tokens = List.of("first ", "(", "a", "<", "-", "b", "+", "2", "*", "n", ")", ";", "second ", "not ", "item",
        " or ", "place", " and ", "more", ";", "says ", "0", ";");
    StringBuilder text = new StringBuilder();
    List<String> seen = new ArrayList<>();
    for (String token : tokens) {
      seen.add(text.toString());
      text.append(token);
    }
    for (String start : seen) {
      fault("it ends too early: its size", start, start.length());
      fault("it ends too early, with blanks: its size", start + " \n ", start.length() + 3);
    }
    good("TEXT", "the whole of it", text.toString());
  }

  private static void openOnes() {
    good("FAULT", "5 ( may be open", by("(((((a)))))"));
    fault("a ( while 5 ( are open", by("((((((a))))))"), 11);
    good("FAULT", "5 not may be open", by("not not not not not a"));
    fault("a not while 5 not are open", by("not not not not not not a"), 26);
    good("FAULT", "5 - may be open", by("-----a"));
    fault("a - while 5 - are open", by("------a"), 11);
    fault("a ( while 5 not are open", by("not not not not not (a)"), 26);
    fault("a - while 5 not are open", by("not not not not not -a"), 26);
    fault("a ( while 5 - are open", by("-----(a)"), 11);
    fault("a - while 5 ( are open", by("(((((-a)))))"), 11);
    fault("a not while 5 ( are open", by("(((((not a)))))"), 11);
    good("FAULT", "five of three sorts", by("not(-(-a))"));
    fault("a sixth of three sorts", by("not(-(-(a)))"), 13);
    fault("a sixth, a not, of three sorts", by("not not(-(not a))"), 16);
    good("FAULT", "a - behind a TERM is none of these", by("(((((a-b)))))"));
    fault("a - behind a - behind a TERM is one", by("(((((a--b)))))"), 13);
    good("FAULT", "a ( is open till its )", by("(((((a)))))*(((((b)))))"));
    good("FAULT", "a ( is open till its ), in a (", by("(((((a))+((b)))))"));
    fault("it is open till its own ) alone", by("(((((a))+(((b))))))"), 17);
    good("FAULT", "a - till its ONE ends", by("-----a--b"));
    fault("a - till its ONE ends, which is a ( )", by("-(-(-(a+b)))"), 11);
    good("FAULT", "a - till its ONE ends, which is a NAME", by("--(-a*(-b))"));
    fault("it is open till its own ONE ends alone", by("--(-a*(--b))"), 14);
    good("FAULT", "a not till its NOT ends, at an and", by("not not not not not a and not not not not not b"));
    good("FAULT", "a not till its NOT ends, at an or", by("not not not not not a or (((((b)))))"));
    fault("a not is open behind <, too", by("not not not not not a<(b)"), 28);
    fault("a not is open behind +, too", by("not not not not not a+-b"), 28);
    fault("a not is open behind *, too", by("not not not not not a*(b)"), 28);
    good("FAULT", "none is open in the next part", "first not not not not not a;second (((((b)))));says -----a;");
  }

  private static void values() {
    value("NAMES", "a:", "a", 100);
    value("NAMES", "b:", "b", 20);
    value("NAMES", "item: 52, the greatest:", "item", 52);
    value("NAMES", "place: 59, the greatest:", "place", 59);
    value("NAMES", "n:", "n", 10);
    value("NAMES", "more: 9, the greatest:", "more", 9);
    edge("NAMES", "n is as many as THE PACK has, 1 and 52", "law first n;second 0;says n;", "deal(1)", "asks(0, 0, 0, 0) = 1",
        "deal(52)", "asks(2, 0, 0, 0) = 52");
    value("TEXT", "a NUMBER", "9999", 9999);
    value("TEXT", "a NUMBER, 0 ahead", "0070", 70);
    value("TEXT", "- from the left", "a-b-n", 70);
    value("TEXT", "- ahead of + from the left", "a-b+n", 90);
    value("TEXT", "* ahead of +", "a+b*n", 300);
    value("TEXT", "( ) ahead of *", "(a+b)*n", 1200);
    value("TEXT", "- ONE ahead of *", "-b*n", -200);
    value("TEXT", "- - ONE", "--a", 100);
    value("TEXT", "+ ahead of <", "a<b+n*9", 1);
    value("TEXT", "not behind <", "not a<b", 1);
    value("TEXT", "not of the NOT alone", "not 1 and 0 or 5", 1);
    value("TEXT", "and ahead of or", "1 or 1 and 0", 1);
    value("TEXT", "( ) ahead of and", "(1 or 1) and 0", 0);
    value("TEXT", "or is 1", "a or b", 1);
    value("TEXT", "or is 0", "0 or 0", 0);
    value("TEXT", "or of the one alone", "a or 0", 1);
    value("TEXT", "or of the other alone", "0 or a", 1);
    value("TEXT", "and is 1", "a and b", 1);
    value("TEXT", "and is 0", "a and 0", 0);
    value("TEXT", "and is 0", "0 and a", 0);
    value("TEXT", "and of bits that don't meet", "1 and 2", 1);
    value("TEXT", "not of what is not 0", "not a", 0);
    value("TEXT", "not of what is below 0", "not -1", 0);
    value("TEXT", "not of 0", "not 0", 1);
    value("TEXT", "not not", "not not a", 1);
    value("TEXT", "< of less", "b<a", 1);
    value("TEXT", "< of the same", "a<a", 0);
    value("TEXT", "< of more", "a<b", 0);
    value("TEXT", "< below 0", "-a<-b", 1);
    value("TEXT", "= of the same", "a=b*5", 1);
    value("TEXT", "= of others", "a=-a", 0);
    // 4096 * 4096 * 127 is 2130706432; 4096 * 4096 * 128 is 2 to the 31st.
    value("TEXT", "a product just below 2 to the 31st:", "0<4096*4096*127", 1);
    value("TEXT", "a product wraps:", "4096*4096*128<0", 1);
    value("TEXT", "a product wraps round to 0:", "4096*4096*256+3", 3);
    value("TEXT", "a sum wraps:", "4096*4096*127+4096*4096*127=-(4096*4096*2)", 1);
    value("TEXT", "a difference wraps:", "-4096*4096*127-4096*4096*127=4096*4096*2", 1);
    value("TEXT", "a - ONE wraps:", "-(4096*4096*128)<0", 1);
    value("TEXT", "the least less 1 is the greatest:", "0<4096*4096*128-1", 1);
    value("TEXT", "< does not wrap:", "4096*4096*128<4096*4096*127", 1);
    value("TEXT", "the greatest is not = the least:", "4096*4096*128=4096*4096*128-1", 0);
  }

  private static void feeds() {
    edge("11 feed", "n 1, the least: the first alone", "feed(1, 102, 7, 7, 7, 7) = 1", "tape irst 3;second b;says a;", "text() = 1");
    edge("11 feed", "n 5, the greatest: all five in order", "feed(5, 102, 105, 114, 115, 116) = 5", "tape  3;second b;says a;", "text() = 1");
    edge("11 feed", "n 2, 3, 4", "feed(2, 102, 105, 0, 0, 0) = 2", "feed(3, 114, 115, 116, 0, 0) = 5",
        "feed(4, 32, 51, 59, 10, 0) = 9", "tape second b;says a;", "text() = 1");
    edge("11 feed", "behind THE TAPE's", "tape first 3;second b;says a", "feed(1, 59, 0, 0, 0, 0) = 24", "text() = 1");
    edge("11 feed", "bytes 0 and 255", "feed(5, 0, 255, 0, 255, 0) = 5", "text() = -100");
    edge("11 feed", "160 have room, one by one", "times 160: feed(1, 32, 0, 0, 0, 0)", "count(5) = 160", "feed(1, 32, 0, 0, 0, 0) = -4");
    edge("11 feed", "5 have room behind 155", "times 31: feed(5, 32, 32, 32, 32, 32)", "feed(5, 32, 32, 32, 32, 32) = 160");
    String[] bytes = {"a", "b", "c", "d", "e"};
    for (int i = 0; i < 5; i++) {
      for (int n = 1; n <= 5; n += 4) {
        StringBuilder call = new StringBuilder("feed(" + n);
        for (int k = 0; k < 5; k++) call.append(k == i ? ", #" : ", 97");
        Edges.outside("11 feed", bytes[i] + " of n " + n + ":", SOME, call + ")", "-2", -1, 256);
      }
    }
    Edges.outside("11 feed", "n", SOME, "feed(#, 97, 97, 97, 97, 97)", "-2", 0, 6, -1);
    String[] full = Edges.steps("times 32: feed(5, 97, 97, 97, 97, 97)");
    for (int n = 1; n <= 5; n++) {
      int left = n - 1;
      String[] before = Edges.steps("times 31: feed(5, 32, 32, 32, 32, 32)", "times " + (5 - left) + ": feed(1, 32, 0, 0, 0, 0)");
      Edges.still("11 feed", "FULL: " + n + " of room " + left + ", none comes", before, "feed(" + n + ", 97, 97, 97, 97, 97) = -4",
          "count(5) = " + (160 - left));
    }
    Edges.still("11 feed", "BAD ahead of FULL", full, "feed(0, 97, 97, 97, 97, 97) = -2", "feed(6, 97, 97, 97, 97, 97) = -2",
        "feed(1, 256, 0, 0, 0, 0) = -2", "feed(1, 0, 0, 0, 0, -1) = -2");
  }

  private static void texts() {
    edge("12 text", "numbers from 1 to 5, TEXT 0 stood", "read " + GOOD + " = 1", "read " + GOOD + " = 2", "read " + GOOD + " = 3",
        "read " + GOOD + " = 4", "read " + GOOD + " = 5", "read " + GOOD + " = -4");
    edge("12 text", "a TEXT leaves THE TAPE empty", "read " + GOOD + " = 1", "count(5) = 0", "text() = -100");
    edge("12 text", "a FAULT leaves THE TAPE empty", "read first a = -107", "count(5) = 0", "read " + GOOD + " = 1");
    edge("12 text", "a FAULT takes no number", "read " + GOOD + " = 1", "read first = -105", "count(3) = 2", "read " + GOOD + " = 2");
    edge("12 text", "a FAULT leaves THE LAW and the TEXTS", "law first 8;second 9;says 7;", "read first 1;second 2;says 3 = -123",
        "count(4) = 1", "asks(0, 0, 0, 0) = 8", "asks(1, 0, 0, 0) = 9", "asks(2, 0, 0, 0) = 7", "force(2) = -2");
    edge("12 text", "what was read ahead of a FAULT is gone", "read first 1;second 2;says 3;; = -124", "read first 1+1 = -109",
        "read first 4+4;second 5+6+7;says 6; = 1", "force(1)", "asks(0, 0, 0, 0) = 8", "asks(1, 0, 0, 0) = 18", "asks(2, 0, 0, 0) = 6");
    edge("12 text", "what stood on THE TAPE ahead is gone", "read first 12345 = -106", "read first 1234 = -110", "read first itemb = -106",
        "read first item = -110");
    edge("12 text", "a TEXT is not THE LAW by itself", "read " + GOOD + " = 1", "count(4) = 0");
    edge("12 text", "THE TAPE with nothing: -100", "text() = -100", "text() = -100");
    edge("12 text", "the FAULT furthest behind", "tape first a;second b;says a;" + " ".repeat(135) + "a", "count(5) = 160", "text() = -259");
    edge("12 text", "160 blanks: the size", "times 32: feed(5, 32, 10, 32, 10, 32)", "text() = -260");
    Edges.still("12 text", "FULL: THE TAPE stays", Edges.steps("times 5: law " + GOOD, "tape " + GOOD), "text() = -4", "count(5) = 24");
    Edges.still("12 text", "FULL ahead of the FAULT: THE TAPE stays", Edges.steps("times 5: law " + GOOD, "tape firs"), "text() = -4",
        "count(5) = 4");
    Edges.still("12 text", "FULL with nothing on THE TAPE", SIX_TEXTS, "text() = -4", "count(5) = 0");
    edge("TEXTS", "TEXT 0 is: first a - item", "asks(0, 100, 20, 7031) = 93");
    edge("TEXTS", "TEXT 0 is: second b + 1", "asks(1, 100, 20, 7031) = 21");
    edge("TEXTS", "TEXT 0 is: says a", "asks(2, 100, 20, 7031) = 100");
    edge("TEXTS", "each has its own", "read first 1;second 2;says 3; = 1", "read first 4;second 5;says 6; = 2", "force(1)",
        "asks(0, 0, 0, 0) = 1", "asks(1, 0, 0, 0) = 2", "asks(2, 0, 0, 0) = 3", "force(2)", "asks(0, 0, 0, 0) = 4",
        "asks(1, 0, 0, 0) = 5", "asks(2, 0, 0, 0) = 6", "force(0)", "asks(2, 9, 0, 0) = 9");
  }

  private static void forces() {
    edge("13 force", "t 0, the least", "force(0) = 0");
    edge("13 force", "t 5, the greatest of six", "times 5: read " + GOOD, "force(5) = 0", "count(4) = 5", "force(0) = 5");
    edge("13 force", "which was, each time", "read " + GOOD, "read " + GOOD, "force(2) = 0", "force(1) = 2", "force(1) = 1");
    Edges.outside("13 force", "of one TEXT t", Edges.steps("tape first 12", "card(3)"), "force(#)", "-2", -1, 1);
    Edges.outside("13 force", "of three TEXTS t", SOME, "force(#)", "-2", -1, 3);
    Edges.outside("13 force", "of six TEXTS t", SIX_TEXTS, "force(#)", "-2", -1, 6);
  }

  private static void asked() {
    edge("14 asks", "part 0, 1, 2", "law first a+1;second b+2;says item+3;", "asks(0, 10, 20, 0) = 11", "asks(1, 10, 20, 0) = 22",
        "asks(2, 10, 20, 9000) = 12");
    edge("14 asks", "a, b 0, the least", "law first a+b;second b;says a;", "asks(0, 0, 0, 0) = 0");
    edge("14 asks", "a, b 65535, the greatest, not cut", "law first a+b;second b+1;says a;", "asks(0, 65535, 65535, 0) = 131070",
        "asks(1, 0, 65535, 0) = 65536", "asks(2, 65535, 0, 0) = 65535");
    edge("14 asks", "item 0 and 52, also above THE PACK", "deal(3)", "law first item;second place;says more;", "asks(0, 0, 0, 999) = -2",
        "asks(0, 0, 0, 599) = 0", "asks(0, 0, 0, 52599) = 52");
    edge("14 asks", "place 0 and 59", "law first item;second place;says more;", "asks(1, 0, 0, 1009) = 0", "asks(1, 0, 0, 1599) = 59");
    edge("14 asks", "more 0 and 9", "law first item;second place;says more;", "asks(2, 0, 0, 1590) = 0", "asks(2, 0, 0, 1599) = 9");
    edge("14 asks", "says takes item and place of the call", "row 1 2 3", "law first 0;second 0;says item*100+place;",
        "asks(2, 0, 0, 7420) = 742");
    edge("14 asks", "just 1000000, the bound", "law first 1000*a;second -1000*a;says 1000*a+b;", "asks(0, 1000, 0, 0) = 1000000",
        "asks(1, 1000, 0, 0) = -1000000");
    edge("14 asks", "1 within the bound", "law first 1000*a-b;second b-1000*a;says 0;", "asks(0, 1000, 1, 0) = 999999",
        "asks(1, 1000, 1, 0) = -999999");
    edge("14 asks", "1 above 1000000: the bound, for any part", "law first 1000*a+b;second 1000*a+b;says 1000*a+b;",
        "asks(0, 1000, 1, 0) = 1000000", "asks(1, 1000, 1, 0) = 1000000", "asks(2, 1000, 1, 0) = 1000000");
    edge("14 asks", "1 below -1000000: the bound, for any part", "law first -1000*a-b;second -1000*a-b;says -1000*a-b;",
        "asks(0, 1000, 1, 0) = -1000000", "asks(1, 1000, 1, 0) = -1000000", "asks(2, 1000, 1, 0) = -1000000");
    edge("14 asks", "the greatest int: the bound", "law first 4096*4096*128-1;second 0;says 0;", "asks(0, 0, 0, 0) = 1000000");
    edge("14 asks", "the least int: the bound", "law first 4096*4096*128;second 0;says 0;", "asks(0, 0, 0, 0) = -1000000");
    Edges.outside("14 asks", "part", SOME, "asks(#, 1, 2, 3)", "-2", -1, 3);
    for (int part = 0; part <= 2; part++) {
      Edges.outside("14 asks", "part " + part + ", a", SOME, "asks(" + part + ", #, 2, 3)", "-2", -1, 65536);
      Edges.outside("14 asks", "part " + part + ", b", SOME, "asks(" + part + ", 1, #, 3)", "-2", -1, 65536);
      Edges.outside("14 asks", "part " + part + ", itemPlaceMore", SOME, "asks(" + part + ", 1, 2, #)", "-2", -1, -10, -1000,
          53000, 52600, 600, 609, 990, 1600, 999);
    }
  }

  private static void heads() {
    edge("HEADS", "numbered from 0 on, 5 at most", "head(0, 1, 0) = 0", "head(0, 1, 0) = 1", "head(0, 1, 0) = 2", "head(0, 1, 0) = 3",
        "head(0, 1, 0) = 4", "head(0, 1, 0) = -4", "count(0) = 5");
    edge("HEADS", "SECOND is 0 as it comes", "head(59, 16, 65535)", "told(0, 4) = 0");
    edge("HEADS", "SECOND is 0 as it comes, where another one was", "image()", "head(0, 5, 5)", "set(0, 2, 77)", "back()",
        "head(0, 5, 5) = 0", "told(0, 4) = 0");
    for (int kind = 0; kind <= 5; kind++) {
      for (int more = 0; more <= 9; more += 9) {
        edge("15 head", "KIND " + kind + ", MORE " + more, "head(" + (10 * kind + more) + ", 4, 5) = 0", "told(0, 0) = " + kind,
            "told(0, 1) = " + more);
      }
    }
    edge("15 head", "BITS 1, the least", "head(0, 1, 9) = 0", "told(0, 2) = 1");
    edge("15 head", "BITS 16, the greatest", "head(0, 16, 9) = 0", "told(0, 2) = 16");
    edge("15 head", "FIRST 0, the least", "head(0, 4, 0) = 0", "told(0, 3) = 0");
    edge("15 head", "FIRST 65535, the greatest, with BITS 1 too", "head(0, 1, 65535) = 0", "told(0, 3) = 65535");
    Edges.outside("15 head", "kindMore", SOME, "head(#, 4, 5)", "-2", -1, -10, 60);
    Edges.outside("15 head", "BITS", SOME, "head(0, #, 5)", "-2", 0, 17, -1);
    Edges.outside("15 head", "FIRST", SOME, "head(0, 4, #)", "-2", -1, 65536);
    Edges.still("15 head", "FULL changes nothing", FIVE, "head(12, 4, 3) = -4");
    Edges.still("15 head", "BAD ahead of FULL", FIVE, "head(60, 4, 3) = -2", "head(0, 0, 3) = -2", "head(0, 17, 3) = -2",
        "head(0, 4, 65536) = -2", "head(-1, 4, 3) = -2", "head(0, 4, -1) = -2");
  }

  private static void sets() {
    edge("16 set", "BITS 1 and 16", "head(0, 4, 5)", "set(0, 0, 16) = 4", "told(0, 2) = 16", "set(0, 0, 1) = 16", "told(0, 2) = 1");
    edge("16 set", "FIRST 0 and 65535", "head(0, 4, 5)", "set(0, 1, 65535) = 5", "told(0, 3) = 65535", "set(0, 1, 0) = 65535",
        "told(0, 3) = 0");
    edge("16 set", "SECOND 0 and 65535", "head(0, 4, 5)", "set(0, 2, 65535) = 0", "told(0, 4) = 65535", "set(0, 2, 0) = 65535",
        "told(0, 4) = 0");
    edge("16 set", "of one HEAD alone, of one what alone", "head(0, 4, 5)", "head(0, 6, 7)", "set(1, 0, 8) = 6", "set(1, 2, 9) = 0",
        "told(0, 2) = 4", "told(0, 4) = 0", "told(1, 2) = 8", "told(1, 3) = 7", "told(1, 4) = 9");
    edge("16 set", "of HEAD 4, the last of five", "times 5: head(0, 4, 5)", "set(4, 0, 9) = 4", "told(4, 2) = 9", "told(3, 2) = 4");
    Edges.outside("16 set", "h of two:", SOME, "set(#, 1, 5)", "-5", -1, 2);
    Edges.outside("16 set", "h of five:", FIVE, "set(#, 1, 5)", "-5", -1, 5);
    Edges.outside("16 set", "h of none:", Edges.steps("card(1)"), "set(#, 1, 5)", "-5", -1, 0);
    Edges.outside("16 set", "what", SOME, "set(1, #, 5)", "-7", -1, 3);
    Edges.outside("16 set", "v of BITS", SOME, "set(1, 0, #)", "-7", 0, 17, -1);
    Edges.outside("16 set", "v of FIRST", SOME, "set(1, 1, #)", "-7", -1, 65536);
    Edges.outside("16 set", "v of SECOND", SOME, "set(1, 2, #)", "-7", -1, 65536);
    Edges.still("16 set", "-5 ahead of -7", SOME, "set(2, 3, 5) = -5", "set(2, 0, 0) = -5", "set(-1, -1, -1) = -5");
  }

  private static void tolds() {
    edge("17 told", "what 0 .. 4, of the first of five", "head(38, 9, 700)", "set(0, 2, 65)", "times 4: head(0, 1, 0)", "told(0, 0) = 3",
        "told(0, 1) = 8", "told(0, 2) = 9", "told(0, 3) = 700", "told(0, 4) = 65");
    edge("17 told", "what 0 .. 4, of the last of five", "times 4: head(0, 1, 0)", "head(38, 9, 700)", "set(4, 2, 65)", "told(4, 0) = 3",
        "told(4, 1) = 8", "told(4, 2) = 9", "told(4, 3) = 700", "told(4, 4) = 65");
    edge("17 told", "FIRST and SECOND as they were told, not cut", "head(0, 1, 65535)", "set(0, 2, 65534)", "told(0, 3) = 65535",
        "told(0, 4) = 65534");
    Edges.outside("17 told", "h of two:", SOME, "told(#, 0)", "-5", -1, 2);
    Edges.outside("17 told", "h of five:", FIVE, "told(#, 0)", "-5", -1, 5);
    Edges.outside("17 told", "h of none:", Edges.steps("card(1)"), "told(#, 0)", "-5", -1, 0);
    Edges.outside("17 told", "what", SOME, "told(1, #)", "-7", -1, 5);
    Edges.still("17 told", "-5 ahead of -7", SOME, "told(2, 5) = -5", "told(-1, -1) = -5");
    for (String call : new String[] {"told(1, 3)", "asks(0, 65535, 65535, 52599)", "asks(2, 1, 2, 3)"}) {
      Edges.still("REFUSALS", "what is asked changes nothing: " + call, SOME, call);
    }
  }

  public static void main(String[] args) {
    tokens();
    bytes();
    full();
    grammar();
    early();
    openOnes();
    values();
    feeds();
    texts();
    forces();
    asked();
    heads();
    sets();
    tolds();
    Edges.end("LawAndHeadsEdgesTest");
  }
}
