/**
 * A pack of cards, a row of them that goes by, and heads that keep but two numbers of so many bits
 * while it does; what such heads say of the row, and of which missing cards they are right.
 */
public final class FiftyOneCards {
    public static final int NONE = -1, BAD = -2, STATE = -3, FULL = -4;
    public static final long NO = -4611686018427387904L;

    private static final int NO_HEAD = -5, NO_PLACE = -6, NO_NUMBER = -7;
    private static final int NOTHING_THERE = -11, OUTSIDE = -12, OTHER_SORT = -13, BELOW_ZERO = -14;
    // Where an answer may be any saying, its refusals stand below all sayings.
    private static final int SAY_NO_HEAD = -1000005, SAY_NO_NUMBER = -1000007, SAY_BOUND = 1000000;
    private static final int FAULT_AT_0 = -100;

    private static final int MOST_CARDS = 52, MOST_PLACES = 60, MOST_HEADS = 5, MOST_TEXTS = 6;
    private static final int MOST_TAPE = 160, MOST_OPEN = 5, MOST_SHEETS = 4, MOST_CELLS = 40;
    private static final int MOST_BITS = 16, MOST_NUMBER = 65535, MOST_MORE = 9, MOST_SEED = 99999;
    private static final int MOST_FEW = 6, MOST_GONE = 3, MOST_STATES = 1 + 6 + 36 + 216;

    private static final int HEAD = 0, SLOW = 1, SLIPPING = 2, DOZING = 3, ROUNDING = 4, AGAIN = 5;
    private static final int CARD_KIND = 6;
    private static final int[] KIND_ABOVE = {-1, HEAD, HEAD, SLOW, SLIPPING, HEAD};

    private static final int BYTES = 0, SHORTS = 1, INTS = 2, MISSING = -1;

    // Tokens of a text. Names and operators are the codes of a text that was read, too.
    private static final int A = 0, B = 1, ITEM = 2, PLACE = 3, N = 4, MORE = 5, NAMES = 6;
    private static final int OR = 6, AND = 7, NOT = 8, LESS = 9, EQUAL = 10;
    private static final int PLUS = 11, MINUS = 12, TIMES = 13, NEGATE = 14;
    private static final int OPEN = 15, CLOSE = 16, SEMICOLON = 17;
    private static final int FIRST = 18, SECOND = 19, SAYS = 20, END = 21, WRONG = 22;
    private static final int NUMBER = 100, MOST_DIGITS = 4;

    private static final int PART_FIRST = 0, PART_SECOND = 1, PART_SAYS = 2, PARTS = 3;
    private static final String TEXT_0 = "first a - item ; second b + 1 ; says a ;";

    private final Row row = new Row();
    private final Row trialRow = new Row();
    private final Head[] heads = new Head[MOST_HEADS];
    private final Head trial = new Head();
    private final Reader reader = new Reader();
    private final Text[] texts = new Text[MOST_TEXTS];
    private final Walk walk = new Walk();
    private final Lots lots = new Lots();
    private final int[] pairs = new int[MOST_STATES];
    private final Sheet[] sheets = new Sheet[MOST_SHEETS];
    private final Image kept = new Image();
    private int pack = 10;
    private int headCount = 0;
    private int textCount = 0;
    private int law = 0;

    public FiftyOneCards() {
        for (int i = 0; i < MOST_HEADS; i++) {
            heads[i] = new Head();
        }
        for (int i = 0; i < MOST_TEXTS; i++) {
            texts[i] = new Text();
        }
        for (int i = 0; i < MOST_SHEETS; i++) {
            sheets[i] = new Sheet();
        }
        for (int i = 0; i < TEXT_0.length(); i++) {
            reader.take(TEXT_0.charAt(i));
        }
        text();
    }

    // ---- the pack, the row

    public int count(int what) {
        switch (what) {
            case 0: return headCount;
            case 1: return pack;
            case 2: return row.size;
            case 3: return textCount;
            case 4: return law;
            case 5: return reader.size;
            default: return BAD;
        }
    }

    public int deal(int n) {
        if (n < 1 || n > MOST_CARDS) {
            return BAD;
        }
        int had = pack;
        pack = n;
        row.dropAbove(n);
        return had;
    }

    public int card(int v) {
        if (!isCard(v)) {
            return BAD;
        }
        return row.add(v) ? row.size : FULL;
    }

    public int fill(int but, int way) {
        if (but != -1 && !isCard(but) || !isWay(way)) {
            return BAD;
        }
        row.becomeAllBut(but, pack, way);
        return row.size;
    }

    public int at(int place) {
        return row.has(place) ? row.cards[place] : NO_PLACE;
    }

    public int turn(int how) {
        if (how < 0 || how > 2) {
            return BAD;
        }
        row.beTurned(how);
        return row.size > 0 ? row.cards[0] : NONE;
    }

    public int missing(int k) {
        if (k < 0 || k >= MOST_CARDS) {
            return BAD;
        }
        int before = 0;
        for (int v = 1; v <= pack; v++) {
            if (row.timesOf(v) == 0) {
                if (before == k) {
                    return v;
                }
                before++;
            }
        }
        return NONE;
    }

    public int truth(int what) {
        switch (what) {
            case 0: return pack - unlikeCards();
            case 1: return unlikeCards();
            case 2: return commonestCard();
            case 3: return row.timesOf(commonestCard());
            case 4: return row.timesOf(commonestCard()) * 2 > row.size ? 1 : 0;
            case 5: return row.earliestTwice();
            case 6: return row.sum();
            case 7: return row.squares();
            default: return BAD;
        }
    }

    public int two(int what) {
        if (what < 0 || what > 1) {
            return BAD;
        }
        int sum = packSum() - row.sum();
        int squares = pack * (pack + 1) * (2 * pack + 1) / 6 - row.squares();
        for (int v = 1; v <= pack; v++) {
            int w = sum - v;
            if (w > v && w <= pack && v * v + w * w == squares) {
                return what == 0 ? 100 * v + w : v;
            }
        }
        return what == 0 ? NONE : pack;
    }

    // ---- the law, heads

    public int feed(int n, int a, int b, int c, int d, int e) {
        if (n < 1 || n > 5 || !isByte(a) || !isByte(b) || !isByte(c) || !isByte(d) || !isByte(e)) {
            return BAD;
        }
        if (reader.size + n > MOST_TAPE) {
            return FULL;
        }
        for (int i = 0; i < n; i++) {
            reader.take(i == 0 ? a : i == 1 ? b : i == 2 ? c : i == 3 ? d : e);
        }
        return reader.size;
    }

    public int text() {
        if (textCount >= MOST_TEXTS) {
            return FULL;
        }
        int fault = reader.readInto(texts[textCount]);
        if (fault >= 0) {
            return FAULT_AT_0 - fault;
        }
        textCount++;
        return textCount - 1;
    }

    public int force(int t) {
        if (t < 0 || t >= textCount) {
            return BAD;
        }
        int was = law;
        law = t;
        return was;
    }

    public int asks(int part, int a, int b, int itemPlaceMore) {
        int item = itemPlaceMore / 1000;
        int place = itemPlaceMore / 10 % 100;
        if (part < 0 || part >= PARTS || !isNumber(a) || !isNumber(b) || itemPlaceMore < 0
                || item > MOST_CARDS || place >= MOST_PLACES) {
            return BAD;
        }
        walk.setOut(lawText(), pack, itemPlaceMore % 10);
        walk.keepBoth(a, b);
        walk.meet(item, place);
        return walk.tellsBounded(part);
    }

    public int head(int kindMore, int many, int first) {
        if (kindMore < 0 || kindMore / 10 > AGAIN || !isBits(many) || !isNumber(first)) {
            return BAD;
        }
        if (headCount >= MOST_HEADS) {
            return FULL;
        }
        Head made = heads[headCount];
        made.kind = kindMore / 10;
        made.more = kindMore % 10;
        made.bits = many;
        made.first = first;
        made.second = 0;
        headCount++;
        return headCount - 1;
    }

    public int set(int h, int what, int v) {
        if (!isHead(h)) {
            return NO_HEAD;
        }
        if (what < 0 || what > 2 || !(what == 0 ? isBits(v) : isNumber(v))) {
            return NO_NUMBER;
        }
        Head head = heads[h];
        int was = told(h, what + 2);
        if (what == 0) {
            head.bits = v;
        } else if (what == 1) {
            head.first = v;
        } else {
            head.second = v;
        }
        return was;
    }

    public int told(int h, int what) {
        if (!isHead(h)) {
            return NO_HEAD;
        }
        Head head = heads[h];
        switch (what) {
            case 0: return head.kind;
            case 1: return head.more;
            case 2: return head.bits;
            case 3: return head.first;
            case 4: return head.second;
            default: return NO_NUMBER;
        }
    }

    // ---- the row goes by

    public int say(int h) {
        return isHead(h) ? saysOf(heads[h], row) : SAY_NO_HEAD;
    }

    public int keep(int h, int n, int what) {
        if (!isHead(h)) {
            return NO_HEAD;
        }
        if (n < 0 || n > row.size || what < 0 || what > 1) {
            return NO_NUMBER;
        }
        Head head = heads[h];
        walk.setOutAs(head, lawText(), pack);
        for (int i = 1; i < head.goings(); i++) {
            walk.goAlong(head, row, row.size);
        }
        walk.goAlong(head, row, n);
        return what == 0 ? walk.names[A] : walk.names[B];
    }

    // ---- whether it is right

    public long right(int h, int way) {
        if (!isHead(h) || !isWay(way)) {
            return NO;
        }
        long bits = 0;
        for (int v = 1; v <= pack; v++) {
            if (saysBut(v, way, heads[h], lawText()) == v) {
                bits |= 1L << (v - 1);
            }
        }
        return bits;
    }

    public int least(int h) {
        if (!isHead(h)) {
            return NO_HEAD;
        }
        trial.become(heads[h]);
        for (int bits = 1; bits <= MOST_BITS; bits++) {
            trial.bits = bits;
            if (isRightOfAll(trial)) {
                return bits;
            }
        }
        return NONE;
    }

    public int begin(int h, int what) {
        if (!isHead(h)) {
            return NO_HEAD;
        }
        if (what < 0 || what > 1) {
            return NO_NUMBER;
        }
        trial.become(heads[h]);
        int best = 0;
        int most = -1;
        for (int i = 0; i <= 100; i++) {
            trial.first = i < 100 ? i : packSum();
            int rightOnes = countRight(trial);
            if (rightOnes > most) {
                most = rightOnes;
                best = trial.first;
            }
        }
        return what == 0 ? best : most;
    }

    public int same(int h, int how) {
        if (!isHead(h)) {
            return NO_HEAD;
        }
        if (how < 0 || how > 1) {
            return NO_NUMBER;
        }
        trialRow.become(row);
        trialRow.beTurned(how);
        return saysOf(heads[h], row) == saysOf(heads[h], trialRow) ? 1 : 0;
    }

    public int share(int h, int g) {
        if (!isHead(h) || !isHead(g)) {
            return SAY_NO_HEAD;
        }
        trialRow.becomeEverySecond(row, 0);
        int one = saysOf(heads[h], trialRow);
        trialRow.becomeEverySecond(row, 1);
        return one + saysOf(heads[g], trialRow);
    }

    public int states(int h, int few, int n) {
        if (!isHead(h)) {
            return NO_HEAD;
        }
        if (few < 1 || few > MOST_FEW || few > pack || n < 0 || n > MOST_GONE) {
            return NO_NUMBER;
        }
        walk.setOutAs(heads[h], lawText(), pack);
        pairs[0] = walk.pair();
        int from = 0;
        int to = 1;
        for (int place = 0; place < n; place++) {
            int end = extendPairs(heads[h], few, place, from, to);
            from = to;
            to = end;
        }
        return unlikePairs(to);
    }

    public int drop(int h, int what) {
        if (!isHead(h)) {
            return SAY_NO_HEAD;
        }
        if (what < 0 || what > 1) {
            return SAY_NO_NUMBER;
        }
        int best = NONE;
        int most = -SAY_BOUND;
        for (int place = 0; place < row.size; place++) {
            trialRow.becomeWithout(row, place);
            int said = saysOf(heads[h], trialRow);
            if (best == NONE || said > most) {
                best = place;
                most = said;
            }
        }
        return what == 0 ? best : most;
    }

    public int often(int h, int n, int much) {
        if (!isHead(h)) {
            return NO_HEAD;
        }
        if (n < 1 || n > 20 || much < -SAY_BOUND || much > SAY_BOUND) {
            return NO_NUMBER;
        }
        trialRow.become(row);
        int times = 0;
        for (int i = 0; i < n; i++) {
            if (saysOf(heads[h], trialRow) == much) {
                times++;
            }
            trialRow.beTurned(1);
        }
        return times;
    }

    public int who(int what) {
        if (what < 0 || what > 1) {
            return BAD;
        }
        int best = NONE;
        int most = NONE;
        for (int h = 0; h < headCount; h++) {
            int rightOnes = countRight(heads[h]);
            if (rightOnes > most) {
                most = rightOnes;
                best = h;
            }
        }
        return what == 0 ? best : most;
    }

    // ---- told sayings

    public int judge(int s, int h) {
        int refused = refusalOfSayings(s, h);
        return refused != 0 ? refused : firstUnlike(sheets[s], heads[h], lawText());
    }

    public int kinds(int s, int h, int sort) {
        int refused = refusalOfSayings(s, h);
        if (refused != 0) {
            return refused;
        }
        if (sort < 0 || sort > 2) {
            return NO_NUMBER;
        }
        trial.become(heads[h]);
        int bits = 0;
        int end = sort == 0 ? AGAIN : sort == 1 ? MOST_MORE : MOST_BITS;
        for (int v = sort == 2 ? 1 : 0; v <= end; v++) {
            if (sort == 0) {
                trial.kind = v;
            } else if (sort == 1) {
                trial.more = v;
            } else {
                trial.bits = v;
            }
            if (firstUnlike(sheets[s], trial, lawText()) == NONE) {
                bits |= 1 << v;
            }
        }
        return bits;
    }

    public int begins(int s, int h, int what) {
        int refused = refusalOfSayings(s, h);
        if (refused != 0) {
            return refused;
        }
        if (what < 0 || what > 1) {
            return NO_NUMBER;
        }
        trial.become(heads[h]);
        int many = 0;
        int least = NONE;
        for (int first = 0; first <= 200; first++) {
            trial.first = first;
            if (firstUnlike(sheets[s], trial, lawText()) == NONE) {
                many++;
                if (least == NONE) {
                    least = first;
                }
            }
        }
        return what == 0 ? many : least;
    }

    public int laws(int s, int h) {
        int refused = refusalOfSayings(s, h);
        if (refused != 0) {
            return refused;
        }
        int bits = 0;
        for (int t = 0; t < textCount; t++) {
            if (firstUnlike(sheets[s], heads[h], texts[t]) == NONE) {
                bits |= 1 << t;
            }
        }
        return bits;
    }

    public int whose(int s) {
        int refused = refusalOfSheet(s);
        if (refused != 0) {
            return refused;
        }
        int bits = 0;
        for (int h = 0; h < headCount; h++) {
            if (firstUnlike(sheets[s], heads[h], lawText()) == NONE) {
                bits |= 1 << h;
            }
        }
        return bits;
    }

    public int film(int s, int h, int n) {
        if (!isSheet(s)) {
            return BAD;
        }
        if (!isHead(h)) {
            return NO_HEAD;
        }
        if (n < 0 || n > pack || n > MOST_CELLS) {
            return NO_NUMBER;
        }
        sheets[s].become(INTS, n);
        for (int i = 0; i < n; i++) {
            sheets[s].put(i, saysBut(i + 1, 0, heads[h], lawText()));
        }
        return n;
    }

    // ---- rows by lot

    public int drawn(int seed, int h, int what) {
        if (!isHead(h)) {
            return SAY_NO_HEAD;
        }
        if (!isSeed(seed) || what < 0 || what > 1) {
            return SAY_NO_NUMBER;
        }
        int absent = drawTrialRow(seed);
        return what == 0 ? absent : saysOf(heads[h], trialRow);
    }

    public long odds(int seed, int seeds, int h, int part) {
        if (!isSeed(seed) || seeds < 1 || seeds > 30 || !isHead(h) || part < 0 || part > 1) {
            return NO;
        }
        int hits = 0;
        for (int i = 0; i < seeds; i++) {
            int absent = drawTrialRow(seed + i);
            if (saysOf(heads[h], trialRow) == absent) {
                hits++;
            }
        }
        int divisor = commonDivisor(hits, seeds);
        return part == 0 ? hits / divisor : seeds / divisor;
    }

    public int image() {
        kept.there = true;
        kept.pack = pack;
        kept.headCount = headCount;
        kept.law = law;
        kept.row.become(row);
        for (int h = 0; h < headCount; h++) {
            kept.heads[h].become(heads[h]);
        }
        return headCount;
    }

    public int back() {
        if (!kept.there) {
            return STATE;
        }
        pack = kept.pack;
        headCount = kept.headCount;
        law = kept.law;
        row.become(kept.row);
        for (int h = 0; h < headCount; h++) {
            heads[h].become(kept.heads[h]);
        }
        return headCount;
    }

    // ---- the host

    public int sheet(int s, int sort, int n) {
        if (!isSheet(s) || sort < MISSING || sort > INTS || sort != MISSING && n > MOST_CELLS) {
            return BAD;
        }
        if (sort != MISSING && n < 0) {
            return BELOW_ZERO;
        }
        sheets[s].become(sort, sort == MISSING ? 0 : n);
        return 1;
    }

    public int cell(int s, int i, int v) {
        if (!isSheet(s)) {
            return BAD;
        }
        if (sheets[s].isMissing()) {
            return NOTHING_THERE;
        }
        if (!sheets[s].has(i)) {
            return OUTSIDE;
        }
        sheets[s].put(i, v);
        return 1;
    }

    public int copy(int s, int i, int other, int j, int n) {
        if (!isSheet(s) || !isSheet(other)) {
            return BAD;
        }
        Sheet from = sheets[s];
        Sheet to = sheets[other];
        if (from.isMissing() || to.isMissing()) {
            return NOTHING_THERE;
        }
        if (from.sort != to.sort) {
            return OTHER_SORT;
        }
        if (!from.hasRun(i, n) || !to.hasRun(j, n)) {
            return OUTSIDE;
        }
        System.arraycopy(from.cells, i, to.cells, j, n);
        return n;
    }

    public int cardsBy(int s, int sort, int from, int n) {
        if (!isSheet(s) || sort < BYTES || sort > INTS || n < 0 || n > MOST_CELLS) {
            return BAD;
        }
        if (sheets[s].isMissing()) {
            return NOTHING_THERE;
        }
        if (sheets[s].sort != sort) {
            return OTHER_SORT;
        }
        int went = 0;
        for (int i = 0; i < n; i++) {
            if (!sheets[s].has(from + i)) {
                return OUTSIDE;
            }
            if (card(sheets[s].cells[from + i]) > 0) {
                went++;
            }
        }
        return went;
    }

    public int taken(int i, int kind) {
        if (kind < HEAD || kind > CARD_KIND) {
            return BAD;
        }
        if (i < 0 || i >= MOST_HEADS + MOST_PLACES) {
            return OUTSIDE;
        }
        if (i < MOST_HEADS) {
            if (!isHead(i)) {
                return NOTHING_THERE;
            }
            return isOfKind(heads[i].kind, kind) ? i : OTHER_SORT;
        }
        int place = i - MOST_HEADS;
        if (!row.has(place)) {
            return NOTHING_THERE;
        }
        return kind == CARD_KIND ? row.cards[place] : OTHER_SORT;
    }

    // ---- what is asked of a number

    private boolean isCard(int v) {
        return v >= 1 && v <= pack;
    }

    private boolean isHead(int h) {
        return h >= 0 && h < headCount;
    }

    private static boolean isSheet(int s) {
        return s >= 0 && s < MOST_SHEETS;
    }

    private static boolean isWay(int way) {
        return way == 0 || way == 1;
    }

    private static boolean isByte(int v) {
        return v >= 0 && v <= 255;
    }

    private static boolean isNumber(int v) {
        return v >= 0 && v <= MOST_NUMBER;
    }

    private static boolean isBits(int v) {
        return v >= 1 && v <= MOST_BITS;
    }

    private static boolean isSeed(int v) {
        return v >= 0 && v <= MOST_SEED;
    }

    private static boolean isOfKind(int kind, int above) {
        int k = kind;
        for (int i = 0; i < KIND_ABOVE.length && k >= 0 && k < KIND_ABOVE.length; i++) {
            if (k == above) {
                return true;
            }
            k = KIND_ABOVE[k];
        }
        return false;
    }

    // ---- of the pack and the row

    private int packSum() {
        return pack * (pack + 1) / 2;
    }

    private int unlikeCards() {
        int unlike = 0;
        for (int v = 1; v <= pack; v++) {
            if (row.timesOf(v) > 0) {
                unlike++;
            }
        }
        return unlike;
    }

    private int commonestCard() {
        int best = NONE;
        int most = 0;
        for (int v = 1; v <= pack; v++) {
            int times = row.timesOf(v);
            if (times > most) {
                most = times;
                best = v;
            }
        }
        return best;
    }

    // ---- what heads say

    private Text lawText() {
        return law >= 0 && law < MOST_TEXTS ? texts[law] : texts[0];
    }

    private int saysOf(Head head, Row cards) {
        return walk.says(head, cards, lawText(), pack);
    }

    private int saysBut(int card, int way, Head head, Text text) {
        trialRow.becomeAllBut(card, pack, way);
        return walk.says(head, trialRow, text, pack);
    }

    private int countRight(Head head) {
        int many = 0;
        for (int v = 1; v <= pack; v++) {
            if (saysBut(v, 0, head, lawText()) == v) {
                many++;
            }
        }
        return many;
    }

    private boolean isRightOfAll(Head head) {
        for (int v = 1; v <= pack; v++) {
            if (saysBut(v, 0, head, lawText()) != v) {
                return false;
            }
        }
        return true;
    }

    /** Lets each of the few cards go by behind each pair told: the end of the pairs made so. */
    private int extendPairs(Head head, int few, int place, int from, int to) {
        int end = to;
        for (int i = from; i < to; i++) {
            for (int v = 1; v <= few && end < MOST_STATES; v++) {
                walk.keepPair(pairs[i]);
                walk.pass(head, v, place);
                pairs[end] = walk.pair();
                end++;
            }
        }
        return end;
    }

    private int unlikePairs(int many) {
        int unlike = 0;
        for (int i = 0; i < many; i++) {
            boolean came = false;
            for (int j = 0; j < i && !came; j++) {
                came = pairs[j] == pairs[i];
            }
            if (!came) {
                unlike++;
            }
        }
        return unlike;
    }

    // ---- told sayings: what speaks against them (0: nothing), and where they are otherwise

    private int refusalOfSheet(int s) {
        if (!isSheet(s)) {
            return BAD;
        }
        if (sheets[s].isMissing()) {
            return NOTHING_THERE;
        }
        return sheets[s].size > pack ? BAD : 0;
    }

    private int refusalOfSayings(int s, int h) {
        int refused = refusalOfSheet(s);
        if (refused != 0) {
            return refused;
        }
        return isHead(h) ? 0 : NO_HEAD;
    }

    private int firstUnlike(Sheet sheet, Head head, Text text) {
        for (int i = 0; i < sheet.size; i++) {
            if (saysBut(i + 1, 0, head, text) != sheet.cells[i]) {
                return i;
            }
        }
        return NONE;
    }

    // ---- rows by lot

    /** The row that is drawn comes into the trial row: the card that is missing there. */
    private int drawTrialRow(int seed) {
        lots.start(seed);
        int absent = lots.below(pack) + 1;
        trialRow.becomeAllBut(absent, pack, 0);
        for (int k = trialRow.size - 1; k >= 1; k--) {
            trialRow.change(k, lots.below(k + 1));
        }
        return absent;
    }

    private static int commonDivisor(int one, int other) {
        for (int d = other; d > 1; d--) {
            if (one % d == 0 && other % d == 0) {
                return d;
            }
        }
        return 1;
    }

    /** Cards at places 0 .. size less 1. */
    private static final class Row {
        private final int[] cards = new int[MOST_PLACES];
        private int size = 0;

        private boolean has(int place) {
            return place >= 0 && place < size;
        }

        private boolean add(int card) {
            if (size >= MOST_PLACES) {
                return false;
            }
            cards[size] = card;
            size++;
            return true;
        }

        private void become(Row other) {
            size = 0;
            for (int i = 0; i < other.size; i++) {
                add(other.cards[i]);
            }
        }

        private void becomeAllBut(int but, int n, int way) {
            size = 0;
            for (int i = 1; i <= n; i++) {
                int card = way == 0 ? i : n + 1 - i;
                if (card != but) {
                    add(card);
                }
            }
        }

        private void becomeWithout(Row other, int place) {
            size = 0;
            for (int i = 0; i < other.size; i++) {
                if (i != place) {
                    add(other.cards[i]);
                }
            }
        }

        private void becomeEverySecond(Row other, int from) {
            size = 0;
            for (int i = 0; i < other.size; i++) {
                if (i % 2 == from) {
                    add(other.cards[i]);
                }
            }
        }

        private void dropAbove(int n) {
            int many = size;
            size = 0;
            for (int i = 0; i < many; i++) {
                if (cards[i] <= n) {
                    add(cards[i]);
                }
            }
        }

        private void change(int i, int j) {
            if (has(i) && has(j)) {
                int card = cards[i];
                cards[i] = cards[j];
                cards[j] = card;
            }
        }

        private void beTurned(int how) {
            if (how == 0) {
                for (int i = 0; i < size / 2; i++) {
                    change(i, size - 1 - i);
                }
            } else if (how == 1) {
                for (int i = 0; i < size - 1; i++) {
                    change(i, i + 1);
                }
            } else {
                for (int i = size - 1; i > 0; i--) {
                    change(i, i - 1);
                }
            }
        }

        private int timesOf(int card) {
            int times = 0;
            for (int i = 0; i < size; i++) {
                if (cards[i] == card) {
                    times++;
                }
            }
            return times;
        }

        private int earliestTwice() {
            for (int i = 1; i < size; i++) {
                for (int j = 0; j < i; j++) {
                    if (cards[j] == cards[i]) {
                        return cards[i];
                    }
                }
            }
            return NONE;
        }

        private int sum() {
            int sum = 0;
            for (int i = 0; i < size; i++) {
                sum += cards[i];
            }
            return sum;
        }

        private int squares() {
            int squares = 0;
            for (int i = 0; i < size; i++) {
                squares += cards[i] * cards[i];
            }
            return squares;
        }
    }

    /** How a head is told: its kind, and the numbers with which it goes. */
    private static final class Head {
        private int kind = HEAD;
        private int more = 0;
        private int bits = 1;
        private int first = 0;
        private int second = 0;

        private void become(Head other) {
            kind = other.kind;
            more = other.more;
            bits = other.bits;
            first = other.first;
            second = other.second;
        }

        private boolean sees(int place) {
            if (kind == DOZING && place < more / 3) {
                return false;
            }
            return !(kind == SLOW || kind == DOZING) || place % (more + 2) != more + 1;
        }

        /** What it keeps first, having meant so much, before its bits cut it. */
        private int keepsFirst(int meant, int place) {
            if (kind != SLIPPING && kind != ROUNDING) {
                return meant;
            }
            int kept = place % (more + 3) == more + 2 ? meant + 1 : meant;
            return kind == ROUNDING && (kept & 1) == 1 ? kept - 1 : kept;
        }

        private int goings() {
            return kind == AGAIN ? 2 + more / 5 : 1;
        }

        private int lowest(int v) {
            return v & ((1 << bits) - 1);
        }
    }

    /** A text that was read: its three parts as codes, operators behind what they join. */
    private static final class Text {
        private final int[] codes = new int[MOST_TAPE];
        private final int[] ends = new int[PARTS];
        private int size = 0;
        private int parts = 0;

        private void clear() {
            size = 0;
            parts = 0;
        }

        private void add(int code) {
            if (size < MOST_TAPE) {
                codes[size] = code;
                size++;
            }
        }

        private void endPart() {
            if (parts < PARTS) {
                ends[parts] = size;
                parts++;
            }
        }

        private int startOf(int part) {
            return part >= 1 && part < parts ? ends[part - 1] : 0;
        }

        private int endOf(int part) {
            return part >= 0 && part < parts ? ends[part] : 0;
        }
    }

    /** The tape, and how a text is read from it, one token ahead. */
    private static final class Reader {
        private final int[] tape = new int[MOST_TAPE];
        private int size = 0;
        private int next = 0;
        private int token = END;
        private int tokenPlace = 0;
        private int fault = NONE;
        private Text target = null;

        private void take(int b) {
            if (size < MOST_TAPE) {
                tape[size] = b;
                size++;
            }
        }

        /** Reads all of the tape, which is empty then: the place of the fault, or NONE. */
        private int readInto(Text text) {
            text.clear();
            target = text;
            next = 0;
            fault = NONE;
            advance();
            readPart(FIRST);
            readPart(SECOND);
            readPart(SAYS);
            expectAtEnd();
            size = 0;
            return fault;
        }

        /** After a fault the token stays a wrong one, so that nothing more is read. */
        private void refuse() {
            if (fault == NONE) {
                fault = tokenPlace;
            }
            token = WRONG;
        }

        private void expectAtEnd() {
            if (token != END) {
                refuse();
            }
        }

        private void expect(int wanted) {
            if (token == wanted) {
                advance();
            } else {
                refuse();
            }
        }

        private void put(int code) {
            if (target != null) {
                target.add(code);
            }
        }

        private void readPart(int key) {
            expect(key);
            readEither(0);
            expect(SEMICOLON);
            if (target != null) {
                target.endPart();
            }
        }

        private void readEither(int open) {
            readBoth(open);
            for (int i = 0; i < MOST_TAPE && token == OR; i++) {
                advance();
                readBoth(open);
                put(OR);
            }
        }

        private void readBoth(int open) {
            readNot(open);
            for (int i = 0; i < MOST_TAPE && token == AND; i++) {
                advance();
                readNot(open);
                put(AND);
            }
        }

        private void readNot(int open) {
            if (token == NOT && open < MOST_OPEN) {
                advance();
                readNot(open + 1);
                put(NOT);
                return;
            }
            readSum(open);
            if (token == LESS || token == EQUAL) {
                int sign = token;
                advance();
                readSum(open);
                put(sign);
            }
        }

        private void readSum(int open) {
            readTerm(open);
            for (int i = 0; i < MOST_TAPE && (token == PLUS || token == MINUS); i++) {
                int sign = token;
                advance();
                readTerm(open);
                put(sign);
            }
        }

        private void readTerm(int open) {
            readOne(open);
            for (int i = 0; i < MOST_TAPE && token == TIMES; i++) {
                advance();
                readOne(open);
                put(TIMES);
            }
        }

        private void readOne(int open) {
            if (token >= NUMBER || token < NAMES) {
                put(token);
                advance();
            } else if (token == MINUS && open < MOST_OPEN) {
                advance();
                readOne(open + 1);
                put(NEGATE);
            } else if (token == OPEN && open < MOST_OPEN) {
                advance();
                readEither(open + 1);
                expect(CLOSE);
            } else {
                refuse();
            }
        }

        private void advance() {
            for (int i = next; i < size && isBlank(tape[i]); i++) {
                next = i + 1;
            }
            tokenPlace = next;
            if (next >= size) {
                token = END;
            } else if (isLetter(tape[next])) {
                token = wordToken(endOfLetters() - next);
            } else if (isDigit(tape[next])) {
                token = numberToken();
            } else {
                token = signToken(tape[next]);
                next++;
            }
        }

        private int endOfLetters() {
            int end = next;
            for (int i = next; i < size && isLetter(tape[i]); i++) {
                end = i + 1;
            }
            return end;
        }

        private int wordToken(int length) {
            int start = next;
            next = start + length;
            if (isWord(start, length, "a")) {
                return A;
            } else if (isWord(start, length, "b")) {
                return B;
            } else if (isWord(start, length, "item")) {
                return ITEM;
            } else if (isWord(start, length, "place")) {
                return PLACE;
            } else if (isWord(start, length, "n")) {
                return N;
            } else if (isWord(start, length, "more")) {
                return MORE;
            } else if (isWord(start, length, "or")) {
                return OR;
            } else if (isWord(start, length, "and")) {
                return AND;
            } else if (isWord(start, length, "not")) {
                return NOT;
            } else if (isWord(start, length, "first")) {
                return FIRST;
            } else if (isWord(start, length, "second")) {
                return SECOND;
            }
            return isWord(start, length, "says") ? SAYS : WRONG;
        }

        private boolean isWord(int start, int length, String word) {
            if (length != word.length() || start < 0 || start + length > MOST_TAPE) {
                return false;
            }
            for (int i = 0; i < length; i++) {
                if (tape[start + i] != word.charAt(i)) {
                    return false;
                }
            }
            return true;
        }

        private int numberToken() {
            int digits = 0;
            int value = 0;
            for (int i = next; i < size && isDigit(tape[i]); i++) {
                next = i + 1;
                digits++;
                if (digits <= MOST_DIGITS) {
                    value = value * 10 + tape[i] - '0';
                }
            }
            return digits <= MOST_DIGITS ? NUMBER + value : WRONG;
        }

        private static int signToken(int b) {
            switch (b) {
                case '(': return OPEN;
                case ')': return CLOSE;
                case ';': return SEMICOLON;
                case '+': return PLUS;
                case '-': return MINUS;
                case '*': return TIMES;
                case '<': return LESS;
                case '=': return EQUAL;
                default: return WRONG;
            }
        }

        private static boolean isBlank(int b) {
            return b == 32 || b == 10;
        }

        private static boolean isLetter(int b) {
            return b >= 'a' && b <= 'z';
        }

        private static boolean isDigit(int b) {
            return b >= '0' && b <= '9';
        }
    }

    /** A head on its way along a row: what it keeps, and what a text makes of that. */
    private static final class Walk {
        private final int[] names = new int[NAMES];
        private final int[] stack = new int[MOST_TAPE];
        private Text text = null;

        private void setOut(Text by, int n, int more) {
            text = by;
            names[N] = n;
            names[MORE] = more;
        }

        private void setOutAs(Head head, Text by, int n) {
            setOut(by, n, head.more);
            keepBoth(head.lowest(head.first), head.lowest(head.second));
        }

        private void keepBoth(int a, int b) {
            names[A] = a;
            names[B] = b;
        }

        private void meet(int item, int place) {
            names[ITEM] = item;
            names[PLACE] = place;
        }

        /** Both numbers as one: they have 16 bits each at most. */
        private int pair() {
            return names[A] << 16 | names[B];
        }

        private void keepPair(int pair) {
            keepBoth(pair >>> 16, pair & MOST_NUMBER);
        }

        private void pass(Head head, int card, int place) {
            if (!head.sees(place)) {
                return;
            }
            meet(card, place);
            int meant = tells(PART_FIRST);
            int second = tells(PART_SECOND);
            keepBoth(head.lowest(head.keepsFirst(meant, place)), head.lowest(second));
        }

        private void goAlong(Head head, Row row, int many) {
            for (int place = 0; place < many && place < row.size; place++) {
                pass(head, row.cards[place], place);
            }
        }

        private int says(Head head, Row row, Text by, int n) {
            setOutAs(head, by, n);
            for (int i = 0; i < head.goings(); i++) {
                goAlong(head, row, row.size);
            }
            meet(0, row.size);
            return tellsBounded(PART_SAYS);
        }

        private int tellsBounded(int part) {
            return Math.max(-SAY_BOUND, Math.min(SAY_BOUND, tells(part)));
        }

        private int tells(int part) {
            if (text == null) {
                return 0;
            }
            int top = 0;
            int end = text.endOf(part);
            for (int i = text.startOf(part); i < end; i++) {
                int code = text.codes[i];
                if (code >= NUMBER || code < NAMES) {
                    if (top < MOST_TAPE) {
                        stack[top] = code >= NUMBER ? code - NUMBER : valueOf(code);
                        top++;
                    }
                } else if (code == NOT || code == NEGATE) {
                    if (top >= 1) {
                        stack[top - 1] = code == NEGATE ? -stack[top - 1] : stack[top - 1] == 0 ? 1 : 0;
                    }
                } else if (top >= 2) {
                    top--;
                    stack[top - 1] = joined(code, stack[top - 1], stack[top]);
                }
            }
            return stack[0];
        }

        private int valueOf(int name) {
            return name >= 0 && name < NAMES ? names[name] : 0;
        }

        private static int joined(int code, int one, int other) {
            switch (code) {
                case OR: return one != 0 || other != 0 ? 1 : 0;
                case AND: return one != 0 && other != 0 ? 1 : 0;
                case LESS: return one < other ? 1 : 0;
                case EQUAL: return one == other ? 1 : 0;
                case PLUS: return one + other;
                case MINUS: return one - other;
                default: return one * other;
            }
        }
    }

    /** The lots of a seed, one behind the other. */
    private static final class Lots {
        private long last = 1;

        private void start(int seed) {
            last = seed + 1L;
        }

        private int below(int many) {
            last = last * 48271L % 2147483647L;
            return many > 0 ? (int) (last % many) : 0;
        }
    }

    /** A row of numbers of a sort, or a missing one. */
    private static final class Sheet {
        private final int[] cells = new int[MOST_CELLS];
        private int sort = MISSING;
        private int size = 0;

        private boolean isMissing() {
            return sort == MISSING;
        }

        private boolean has(int i) {
            return i >= 0 && i < size;
        }

        private boolean hasRun(int from, int many) {
            return from >= 0 && many >= 0 && from <= size && many <= size - from;
        }

        private void become(int newSort, int many) {
            sort = newSort;
            size = Math.max(0, Math.min(MOST_CELLS, many));
            for (int i = 0; i < MOST_CELLS; i++) {
                cells[i] = 0;
            }
        }

        private void put(int i, int v) {
            if (has(i)) {
                cells[i] = sort == BYTES ? (byte) v : sort == SHORTS ? (short) v : v;
            }
        }
    }

    /** What an image keeps. */
    private static final class Image {
        private final Row row = new Row();
        private final Head[] heads = new Head[MOST_HEADS];
        private boolean there = false;
        private int pack = 0;
        private int headCount = 0;
        private int law = 0;

        private Image() {
            for (int i = 0; i < MOST_HEADS; i++) {
                heads[i] = new Head();
            }
        }
    }
}
