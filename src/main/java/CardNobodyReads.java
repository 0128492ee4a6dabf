/**
 * A card nobody reads: what its signs mean, who may eat what, what to taste and what to ask.
 * The promises are numbered in ../shared/DOC.md; the methods stand here in their order.
 */
public final class CardNobodyReads {
    public static final int NONE = -1, BAD = -2, STATE = -3, FULL = -4;
    public static final long NO = -4611686018427387904L;

    private static final int NO_SUCH = -5, NOT_AS_TOLD = -7;
    private static final int NOTHING_THERE = -11, OUTSIDE = -12, UNLIKE = -13, BELOW_0 = -14;

    private static final int SIGNS = 6, PARTS = 6, TONGUES = 720, SETS = 64;
    private static final int MOST_LINES = 10, MOST_GUESTS = 4, MOST_FACTS = 12, MOST_TEXTS = 6;
    private static final int MOST_BYTES = 160, MOST_OPEN = 5, MOST_PRICE = 99, MOST_COIN = 999;
    private static final int MOST_SEED = 99999, MOST_SEEDS = 30;
    private static final int SHEETS = 4, MOST_CELLS = 40, MISSING = -1, BYTES = 0, SHORTS = 1, INTS = 2;
    private static final int TASTED = 1, SEEN = 2, GUESSED = 3, SHARED = 4, SAFE = 5, A_LINE = 6;

    /** A part of THE LAW, as of asks(). */
    private static final int MAY_HAVE = 0, LIKED = 1, LEARNED = 2, TEXT_PARTS = 3;

    /** The KIND that a KIND is also one of. */
    private static final int[] KIND_ABOVE = {-1, 0, 0, SEEN, TASTED, SEEN};

    /** How many tongues go by, till the part of a sign is another. */
    private static final int[] TURNS = {120, 24, 6, 2, 1, 1};

    private static final String FIRST_TEXT = "may 1 ; likes 50 - price + many ; learns 720 - left ;";

    private final Tongues tongues;
    private final Lines card;
    private final Facts known;
    private final Texts book;
    private final Fits fits;
    private final Tonight tonight;
    private final Image kept;
    private final Sheets host;
    private final int[] shuns;
    private int guests;
    private int coin;
    private int law;
    private boolean stale;

    // ---- 1: a new object

    public CardNobodyReads() {
        tongues = new Tongues();
        card = new Lines();
        known = new Facts();
        book = new Texts();
        fits = new Fits();
        tonight = new Tonight();
        kept = new Image();
        host = new Sheets();
        shuns = new int[MOST_GUESTS];
        coin = 100;
        stale = true;
    }

    // ---- 2 to 12: the card, guests, the law

    public int line(int set, int cost) {
        if (!Lines.mayStand(set, cost)) {
            return BAD;
        }
        if (card.number >= MOST_LINES) {
            return FULL;
        }
        return addLine(set, cost);
    }

    public int lineTold(int l, int what) {
        if (!isLine(l)) {
            return NO_SUCH;
        }
        if (!within(what, 0, 1)) {
            return NOT_AS_TOLD;
        }
        return what == 0 ? card.signsOf(l) : card.priceOf(l);
    }

    public int set(int l, int v) {
        if (!isLine(l)) {
            return NO_SUCH;
        }
        if (!within(v, 1, MOST_PRICE)) {
            return NOT_AS_TOLD;
        }
        int was = card.priceOf(l);
        put(card.prices, l, v);
        stale = true;
        return was;
    }

    public int guest(int set) {
        if (!isParts(set)) {
            return BAD;
        }
        if (guests >= MOST_GUESTS) {
            return FULL;
        }
        put(shuns, guests, set);
        guests++;
        return guests - 1;
    }

    public int guestTold(int g) {
        return isGuest(g) ? at(shuns, g) : NO_SUCH;
    }

    public int pays(int v) {
        if (!within(v, 0, MOST_COIN)) {
            return BAD;
        }
        int was = coin;
        coin = v;
        return was;
    }

    public int count(int what) {
        switch (what) {
            case 0:
                return card.number;
            case 1:
                return guests;
            case 2:
                return known.number;
            case 3:
                return coin;
            case 4:
                return book.number;
            case 5:
                return law;
            case 6:
                return book.tape.size;
            default:
                return BAD;
        }
    }

    public int feed(int n, int a, int b, int c, int d, int e) {
        if (!within(n, 1, 5) || !isByte(a) || !isByte(b) || !isByte(c) || !isByte(d) || !isByte(e)) {
            return BAD;
        }
        if (book.tape.size > MOST_BYTES - n) {
            return FULL;
        }
        for (int i = 0; i < n; i++) {
            book.tape.add(i == 0 ? a : i == 1 ? b : i == 2 ? c : i == 3 ? d : e);
        }
        return book.tape.size;
    }

    public int text() {
        if (book.number >= MOST_TEXTS) {
            return FULL;
        }
        int fault = book.read();
        return fault == NONE ? book.number - 1 : -100 - fault;
    }

    public int force(int t) {
        if (!within(t, 0, book.number - 1)) {
            return BAD;
        }
        int was = law;
        law = t;
        stale = true;
        return was;
    }

    public int asks(int part, int l, int set, int guest, int left) {
        if (!isLine(l)) {
            return NO_SUCH;
        }
        if (!within(part, 0, TEXT_PARTS - 1) || !isParts(set)
                || !within(guest, 0, MOST_GUESTS - 1) || !within(left, 0, TONGUES)) {
            return NOT_AS_TOLD;
        }
        return book.says(law, part, card.priceOf(l), set, l, guest, left);
    }

    // ---- 13 to 15: facts

    public int know(int kind, int l, int parts, int more) {
        if (!mayBeFact(kind, l, parts, more)) {
            return BAD;
        }
        if (known.number >= MOST_FACTS) {
            return FULL;
        }
        stale = true;
        return known.add(kind, l, parts, more);
    }

    public int forget() {
        if (known.number <= 0) {
            return STATE;
        }
        if (kept.facts >= known.number) {
            kept.there = false;
        }
        known.number--;
        stale = true;
        return known.number;
    }

    public int factTold(int f, int what) {
        if (!within(f, 0, known.number - 1)) {
            return NO_SUCH;
        }
        switch (what) {
            case 0:
                return at(known.kinds, f);
            case 1:
                return at(known.lines, f);
            case 2:
                return at(known.parts, f);
            case 3:
                return at(known.mores, f);
            default:
                return NOT_AS_TOLD;
        }
    }

    // ---- 16 to 23: what fits

    public int sets() {
        return fitting().number;
    }

    public int first(int sign) {
        if (!isSign(sign)) {
            return NO_SUCH;
        }
        Fits now = fitting();
        return now.number == 0 ? NONE : tongues.partOf(now.tongueOf(0), sign);
    }

    public int means(int sign, int part) {
        return isSign(sign) && isPart(part) ? fitting().meaning(sign, part) : NO_SUCH;
    }

    public int sure(int sign) {
        if (!isSign(sign)) {
            return NO_SUCH;
        }
        Fits now = fitting();
        for (int part = 0; part < PARTS && now.number > 0; part++) {
            if (now.meaning(sign, part) == now.number) {
                return part;
            }
        }
        return NONE;
    }

    public int doubt(int sign) {
        if (!isSign(sign) && sign != -1) {
            return NO_SUCH;
        }
        Fits now = fitting();
        if (sign != -1) {
            return now.meaningsOf(sign);
        }
        int most = 0;
        for (int s = 1; s < SIGNS; s++) {
            if (now.meaningsOf(s) > now.meaningsOf(most)) {
                most = s;
            }
        }
        return most;
    }

    public long odds(int sign, int part, int p) {
        if (!isSign(sign) || !isPart(part) || !isFractionPart(p)) {
            return NO;
        }
        Fits now = fitting();
        return fraction(now.meaning(sign, part), now.number, p);
    }

    public long has(int l, int set, int p) {
        if (!isLine(l) || !isParts(set) || !isFractionPart(p)) {
            return NO;
        }
        Fits now = fitting();
        return fraction(now.withAll(l, set), now.number, p);
    }

    public int partsOfLine(int l, int what) {
        if (!isLine(l)) {
            return NO_SUCH;
        }
        if (!within(what, 0, 1)) {
            return NOT_AS_TOLD;
        }
        Fits now = fitting();
        if (now.number == 0) {
            return NONE;
        }
        return what == 0 ? now.partsInAll(l) : now.partsInAny(l);
    }

    // ---- 24 to 28: guests, tonight

    public int safe(int g) {
        return isGuest(g) ? safeLines(fitting(), g) : NO_SUCH;
    }

    public long risk(int g, int l, int p) {
        if (!isGuest(g) || !isLine(l) || !isFractionPart(p)) {
            return NO;
        }
        Fits now = fitting();
        return fraction(now.withAny(l, at(shuns, g)), now.number, p);
    }

    public int order(int g) {
        if (!isGuest(g)) {
            return NO_SUCH;
        }
        planTonight(fitting());
        return at(tonight.best, g);
    }

    public int ordered(int what) {
        if (!within(what, 0, 1)) {
            return BAD;
        }
        planTonight(fitting());
        return what == 0 ? tonight.liked : tonight.spent;
    }

    public int middle(int set) {
        if (!within(set, 0, card.everyLine())) {
            return BAD;
        }
        Fits now = fitting();
        int together = 0;
        for (int g = 0; g < guests; g++) {
            together += mostLiking(now, g, set & safeLines(now, g));
        }
        return together;
    }

    // ---- 29 to 34: what to taste, what to ask

    public int taste(int what) {
        if (!within(what, 0, 1)) {
            return BAD;
        }
        Fits now = fitting();
        int best = NONE;
        int most = 0;
        for (int l = 0; l < card.number; l++) {
            int much = teaching(now, l);
            if (best == NONE || much > most) {
                best = l;
                most = much;
            }
        }
        return what == 0 ? best : most;
    }

    public int two(int what) {
        if (!within(what, 0, 1)) {
            return BAD;
        }
        Fits now = fitting();
        int best = NONE;
        int least = 0;
        for (int a = 0; a < card.number; a++) {
            for (int b = a + 1; b < card.number; b++) {
                int squares = now.squares(card, a, b);
                if (best == NONE || squares < least) {
                    best = 10 * a + b;
                    least = squares;
                }
            }
        }
        return what == 0 ? best : least;
    }

    public int ask(int what) {
        if (!within(what, 0, 1)) {
            return BAD;
        }
        Fits now = fitting();
        int best = NONE;
        int most = 0;
        for (int l = 0; l < card.number; l++) {
            for (int part = 0; part < PARTS; part++) {
                int have = now.withAll(l, 1 << part);
                int lesser = Math.min(have, now.number - have);
                if (best == NONE || lesser > most) {
                    best = 10 * l + part;
                    most = lesser;
                }
            }
        }
        return what == 0 ? best : most;
    }

    public int would(int kind, int l, int parts, int more) {
        if (known.number >= MOST_FACTS) {
            return STATE;
        }
        if (!mayBeFact(kind, l, parts, more)) {
            return BAD;
        }
        Fits now = fitting();
        int fit = 0;
        for (int i = 0; i < now.number; i++) {
            int t = now.tongueOf(i);
            if (Facts.holds(kind, parts, more, card.had(l, t), card.had(more, t))) {
                fit++;
            }
        }
        return fit;
    }

    public int clash() {
        Fits now = fitting();
        return now.number == 0 ? now.lone : 0;
    }

    public int idle() {
        Fits now = fitting();
        int every = (1 << known.number) - 1;
        return every & ~now.lone;
    }

    // ---- 35 to 38: bills, meals

    public int bill(int n, int sum, int what) {
        if (!within(n, 0, MOST_LINES) || !within(sum, 0, MOST_COIN) || !within(what, 0, 2)) {
            return BAD;
        }
        int every = card.everyLine();
        int ways = 0;
        int inAll = every;
        int inAny = 0;
        for (int set = 0; set <= every; set++) {
            if (Integer.bitCount(set) == n && card.pricesOf(set) == sum) {
                ways++;
                inAll &= set;
                inAny |= set;
            }
        }
        if (what == 0 || ways == 0) {
            return ways;
        }
        return what == 1 ? inAll : inAny;
    }

    public int match(int s) {
        if (!isSheet(s)) {
            return BAD;
        }
        if (host.isMissing(s)) {
            return NOTHING_THERE;
        }
        if (host.sizeOf(s) != card.number) {
            return BAD;
        }
        Fits now = fitting();
        int alike = 0;
        for (int i = 0; i < now.number; i++) {
            if (isMeal(s, now.tongueOf(i))) {
                alike++;
            }
        }
        return alike;
    }

    public int film(int s) {
        if (!isSheet(s)) {
            return BAD;
        }
        Fits now = fitting();
        if (now.number == 0) {
            return STATE;
        }
        host.become(s, INTS, card.number);
        for (int l = 0; l < card.number; l++) {
            host.write(s, l, card.had(l, now.tongueOf(0)));
        }
        return card.number;
    }

    public int laws() {
        int sound = 0;
        for (int t = 0; t < book.number; t++) {
            if (fits.anyBy(card, known, book, t)) {
                sound |= 1 << t;
            }
        }
        return sound;
    }

    // ---- 39 to 42: lots, an image

    public int drawn(int seed, int sign) {
        if (!within(seed, 0, MOST_SEED) || !isSign(sign)) {
            return BAD;
        }
        Fits now = fitting();
        return now.number == 0 ? NONE : tongues.partOf(now.drawnBy(seed), sign);
    }

    public long chance(int g, int l, int seed, int seeds, int p) {
        if (!isGuest(g) || !isLine(l) || !within(seed, 0, MOST_SEED)
                || !within(seeds, 1, MOST_SEEDS) || !isFractionPart(p)) {
            return NO;
        }
        Fits now = fitting();
        if (now.number == 0) {
            return NO;
        }
        int shunned = 0;
        for (int i = 0; i < seeds; i++) {
            if ((card.had(l, now.drawnBy(seed + i)) & at(shuns, g)) != 0) {
                shunned++;
            }
        }
        return fraction(shunned, seeds, p);
    }

    public int image() {
        kept.there = true;
        kept.lines = card.number;
        kept.guests = guests;
        kept.facts = known.number;
        kept.coin = coin;
        kept.law = law;
        System.arraycopy(card.prices, 0, kept.prices, 0, MOST_LINES);
        return card.number;
    }

    public int back() {
        if (!kept.there) {
            return STATE;
        }
        card.number = kept.lines;
        guests = kept.guests;
        known.number = kept.facts;
        coin = kept.coin;
        law = kept.law;
        System.arraycopy(kept.prices, 0, card.prices, 0, MOST_LINES);
        stale = true;
        return card.number;
    }

    // ---- 43 to 47: the host

    public int sheet(int s, int sort, int n) {
        if (!isSheet(s) || !within(sort, MISSING, INTS)) {
            return BAD;
        }
        if (sort == MISSING) {
            host.become(s, MISSING, 0);
            return 1;
        }
        if (n > MOST_CELLS) {
            return BAD;
        }
        if (n < 0) {
            return BELOW_0;
        }
        host.become(s, sort, n);
        return 1;
    }

    public int cell(int s, int i, int v) {
        if (!isSheet(s)) {
            return BAD;
        }
        if (host.isMissing(s)) {
            return NOTHING_THERE;
        }
        if (!within(i, 0, host.sizeOf(s) - 1)) {
            return OUTSIDE;
        }
        host.write(s, i, v);
        return 1;
    }

    public int copy(int s, int i, int other, int j, int n) {
        if (!isSheet(s) || !isSheet(other)) {
            return BAD;
        }
        if (host.isMissing(s) || host.isMissing(other)) {
            return NOTHING_THERE;
        }
        if (host.sortOf(s) != host.sortOf(other)) {
            return UNLIKE;
        }
        if (n < 0 || !within(i, 0, host.sizeOf(s) - n) || !within(j, 0, host.sizeOf(other) - n)) {
            return OUTSIDE;
        }
        host.move(s, i, other, j, n);
        return n;
    }

    public int linesBy(int s, int sort, int at, int n) {
        if (!isSheet(s) || !within(sort, BYTES, INTS) || !within(n, 0, MOST_LINES)) {
            return BAD;
        }
        if (host.isMissing(s)) {
            return NOTHING_THERE;
        }
        if (host.sortOf(s) != sort) {
            return UNLIKE;
        }
        int came = 0;
        for (int k = 0; k < n; k++) {
            // the bound moves, not the place: a place near the largest int would wrap
            if (!within(at, 0, host.sizeOf(s) - 2 * k - 2)) {
                return OUTSIDE;
            }
            int set = host.read(s, at + 2 * k);
            int cost = host.read(s, at + 2 * k + 1);
            if (Lines.mayStand(set, cost) && card.number < MOST_LINES) {
                addLine(set, cost);
                came++;
            }
        }
        return came;
    }

    public int taken(int i, int kind) {
        if (!within(kind, 0, A_LINE)) {
            return BAD;
        }
        if (!within(i, 0, MOST_LINES + MOST_FACTS - 1)) {
            return OUTSIDE;
        }
        int f = i - MOST_LINES;
        if (f < 0 ? !isLine(i) : f >= known.number) {
            return NOTHING_THERE;
        }
        if (f < 0) {
            return kind == A_LINE ? card.signsOf(i) : UNLIKE;
        }
        return kind != A_LINE && Facts.isOne(at(known.kinds, f), kind) ? f : UNLIKE;
    }

    // ---- what the promises share

    /** What lies outside a row reads as 0, so that no index is used untested. */
    private static int at(int[] row, int i) {
        return i >= 0 && i < row.length ? row[i] : 0;
    }

    private static void put(int[] row, int i, int v) {
        if (i >= 0 && i < row.length) {
            row[i] = v;
        }
    }

    private static boolean within(int v, int low, int high) {
        return v >= low && v <= high;
    }

    private static boolean isSign(int sign) {
        return within(sign, 0, SIGNS - 1);
    }

    private static boolean isPart(int part) {
        return within(part, 0, PARTS - 1);
    }

    private static boolean isParts(int set) {
        return within(set, 0, SETS - 1);
    }

    private static boolean isByte(int v) {
        return within(v, 0, 255);
    }

    private static boolean isSheet(int s) {
        return within(s, 0, SHEETS - 1);
    }

    private static boolean isFractionPart(int p) {
        return within(p, 0, 1);
    }

    private boolean isLine(int l) {
        return within(l, 0, card.number - 1);
    }

    private boolean isGuest(int g) {
        return within(g, 0, guests - 1);
    }

    private boolean mayBeFact(int kind, int l, int parts, int more) {
        return within(kind, 0, SAFE) && isLine(l) && isParts(parts) && within(more, 0, 9)
                && (kind != SHARED || isLine(more));
    }

    private static long fraction(int some, int all, int p) {
        int common = commonDivisor(some, all);
        if (all <= 0 || common <= 0) {
            return NO;
        }
        return p == 0 ? some / common : all / common;
    }

    private static int commonDivisor(int some, int all) {
        int a = all;
        int b = some;
        // the numbers at least halve every second turn, so 64 turns are more than an int can need
        for (int turn = 0; turn < 64 && b > 0; turn++) {
            int rest = a % b;
            a = b;
            b = rest;
        }
        return a;
    }

    private int addLine(int set, int cost) {
        stale = true;
        return card.add(tongues, set, cost);
    }

    /** What fits is found once after a change, since most calls ask for it. */
    private Fits fitting() {
        if (stale) {
            fits.find(tongues, card, known, book, law);
            stale = false;
        }
        return fits;
    }

    private int safeLines(Fits now, int g) {
        int safe = 0;
        for (int l = 0; l < card.number && now.number > 0; l++) {
            if (now.withAny(l, at(shuns, g)) == 0) {
                safe |= 1 << l;
            }
        }
        return safe;
    }

    private int liking(Fits now, int g, int l) {
        int together = 0;
        for (int set = 0; set < SETS; set++) {
            int many = now.having(l, set);
            if (many > 0) {
                together += many * book.says(law, LIKED, card.priceOf(l), set, l, g, now.number);
            }
        }
        return together;
    }

    private int teaching(Fits now, int l) {
        int together = 0;
        for (int set = 0; set < SETS; set++) {
            int many = now.having(l, set);
            if (many > 0) {
                together += many * book.says(law, LEARNED, card.priceOf(l), set, l, 0, many);
            }
        }
        return together;
    }

    private int mostLiking(Fits now, int g, int set) {
        int most = 0;
        for (int l = 0; l < card.number; l++) {
            if ((set >> l & 1) != 0) {
                most = Math.max(most, liking(now, g, l));
            }
        }
        return most;
    }

    private void planTonight(Fits now) {
        for (int g = 0; g < guests; g++) {
            int safe = safeLines(now, g);
            for (int l = 0; l < card.number; l++) {
                tonight.offer(g, l, (safe >> l & 1) != 0 ? liking(now, g, l) : Tonight.UNSAFE);
            }
        }
        tonight.plan(guests, card, coin);
    }

    private boolean isMeal(int s, int t) {
        for (int l = 0; l < card.number; l++) {
            if (host.read(s, l) != card.had(l, t)) {
                return false;
            }
        }
        return true;
    }

    /** All tongues, in the order of their rows. */
    private static final class Tongues {
        private final int[] parts = new int[TONGUES * SIGNS];

        Tongues() {
            for (int t = 0; t < TONGUES; t++) {
                spell(t);
            }
        }

        private void spell(int t) {
            int rest = t;
            int unused = SETS - 1;
            for (int sign = 0; sign < SIGNS; sign++) {
                int turn = Math.max(1, at(TURNS, sign));
                int part = member(unused, rest / turn);
                put(parts, t * SIGNS + sign, part);
                unused &= ~(1 << part);
                rest %= turn;
            }
        }

        private static int member(int set, int n) {
            int left = set;
            for (int i = 0; i < n; i++) {
                left &= left - 1;
            }
            return Integer.numberOfTrailingZeros(left);
        }

        int partOf(int t, int sign) {
            return at(parts, t * SIGNS + sign);
        }

        int partsOf(int t, int signs) {
            int had = 0;
            for (int sign = 0; sign < SIGNS; sign++) {
                if ((signs >> sign & 1) != 0) {
                    had |= 1 << partOf(t, sign);
                }
            }
            return had;
        }
    }

    /** The card, and what each line has in each tongue, written down when the line comes. */
    private static final class Lines {
        private final int[] signs = new int[MOST_LINES];
        private final int[] prices = new int[MOST_LINES];
        private final int[] hads = new int[MOST_LINES * TONGUES];
        private int number;

        static boolean mayStand(int set, int cost) {
            return isParts(set) && within(Integer.bitCount(set), 1, 3) && within(cost, 1, MOST_PRICE);
        }

        int add(Tongues tongues, int set, int cost) {
            int l = number;
            put(signs, l, set);
            put(prices, l, cost);
            for (int t = 0; t < TONGUES; t++) {
                put(hads, l * TONGUES + t, tongues.partsOf(t, set));
            }
            number++;
            return l;
        }

        int signsOf(int l) {
            return at(signs, l);
        }

        int priceOf(int l) {
            return at(prices, l);
        }

        int had(int l, int t) {
            return at(hads, l * TONGUES + t);
        }

        int everyLine() {
            return (1 << number) - 1;
        }

        int pricesOf(int set) {
            int together = 0;
            for (int l = 0; l < number; l++) {
                if ((set >> l & 1) != 0) {
                    together += priceOf(l);
                }
            }
            return together;
        }
    }

    private static final class Facts {
        private final int[] kinds = new int[MOST_FACTS];
        private final int[] lines = new int[MOST_FACTS];
        private final int[] parts = new int[MOST_FACTS];
        private final int[] mores = new int[MOST_FACTS];
        private int number;

        int add(int kind, int l, int set, int more) {
            int f = number;
            put(kinds, f, kind);
            put(lines, f, l);
            put(parts, f, set);
            put(mores, f, more);
            number++;
            return f;
        }

        /** By what the fact's line had, and the line that its MORE names. */
        static boolean holds(int kind, int set, int more, int had, int other) {
            int both = had & set;
            switch (kind) {
                case TASTED:
                    return had == set;
                case SEEN:
                    return both == set;
                case GUESSED:
                    return both == set || Integer.bitCount(both) >= more;
                case SHARED:
                    return (had & other) == set;
                case SAFE:
                    return both == 0;
                default:
                    return true;
            }
        }

        /** The facts (bits) that do not hold in a tongue. */
        int brokenIn(Lines card, int t) {
            int broken = 0;
            for (int f = 0; f < number; f++) {
                int more = at(mores, f);
                int had = card.had(at(lines, f), t);
                if (!holds(at(kinds, f), at(parts, f), more, had, card.had(more, t))) {
                    broken |= 1 << f;
                }
            }
            return broken;
        }

        static boolean isOne(int kind, int wanted) {
            int k = kind;
            for (int step = 0; step < KIND_ABOVE.length && k >= 0; step++) {
                if (k == wanted) {
                    return true;
                }
                k = at(KIND_ABOVE, k);
            }
            return false;
        }
    }

    /** The tongues that fit, in their order, with what is counted of them once. */
    private static final class Fits {
        private final int[] fitting = new int[TONGUES];
        private final int[] meanings = new int[SIGNS * PARTS];
        private final int[] havings = new int[MOST_LINES * SETS];
        private final int[] mays = new int[MOST_LINES * SETS];
        private final int[] pairs = new int[SETS * SETS];
        private int number;
        /** The facts (bits) that alone keep a tongue from fitting. */
        private int lone;

        void find(Tongues tongues, Lines card, Facts known, Texts book, int law) {
            number = 0;
            lone = 0;
            clear(meanings);
            clear(havings);
            allow(card, book, law);
            for (int t = 0; t < TONGUES; t++) {
                int broken = isLawful(card, t) ? known.brokenIn(card, t) : -1;
                if (broken == 0) {
                    take(tongues, card, t);
                } else if (Integer.bitCount(broken) == 1) {
                    lone |= broken;
                }
            }
        }

        boolean anyBy(Lines card, Facts known, Texts book, int law) {
            allow(card, book, law);
            for (int t = 0; t < TONGUES; t++) {
                if (isLawful(card, t) && known.brokenIn(card, t) == 0) {
                    return true;
                }
            }
            return false;
        }

        private static void clear(int[] row) {
            for (int i = 0; i < row.length; i++) {
                row[i] = 0;
            }
        }

        /** A line can only have as many parts as it has signs, so other sets are not asked about. */
        private void allow(Lines card, Texts book, int law) {
            for (int l = 0; l < card.number; l++) {
                int signs = Integer.bitCount(card.signsOf(l));
                int price = card.priceOf(l);
                for (int set = 0; set < SETS; set++) {
                    if (Integer.bitCount(set) == signs) {
                        put(mays, l * SETS + set, book.says(law, MAY_HAVE, price, set, l, 0, 0));
                    }
                }
            }
        }

        private boolean isLawful(Lines card, int t) {
            for (int l = 0; l < card.number; l++) {
                if (at(mays, l * SETS + card.had(l, t)) == 0) {
                    return false;
                }
            }
            return true;
        }

        private void take(Tongues tongues, Lines card, int t) {
            put(fitting, number, t);
            number++;
            for (int sign = 0; sign < SIGNS; sign++) {
                int i = sign * PARTS + tongues.partOf(t, sign);
                put(meanings, i, at(meanings, i) + 1);
            }
            for (int l = 0; l < card.number; l++) {
                int i = l * SETS + card.had(l, t);
                put(havings, i, at(havings, i) + 1);
            }
        }

        int tongueOf(int n) {
            return at(fitting, n);
        }

        int meaning(int sign, int part) {
            return at(meanings, sign * PARTS + part);
        }

        int meaningsOf(int sign) {
            int parts = 0;
            for (int part = 0; part < PARTS; part++) {
                if (meaning(sign, part) > 0) {
                    parts++;
                }
            }
            return parts;
        }

        /** In how many a line has just a set. */
        int having(int l, int set) {
            return at(havings, l * SETS + set);
        }

        int withAll(int l, int wanted) {
            int together = 0;
            for (int set = 0; set < SETS; set++) {
                if ((set & wanted) == wanted) {
                    together += having(l, set);
                }
            }
            return together;
        }

        int withAny(int l, int wanted) {
            int together = 0;
            for (int set = 0; set < SETS; set++) {
                if ((set & wanted) != 0) {
                    together += having(l, set);
                }
            }
            return together;
        }

        int partsInAll(int l) {
            int parts = SETS - 1;
            for (int set = 0; set < SETS; set++) {
                if (having(l, set) > 0) {
                    parts &= set;
                }
            }
            return parts;
        }

        int partsInAny(int l) {
            int parts = 0;
            for (int set = 0; set < SETS; set++) {
                if (having(l, set) > 0) {
                    parts |= set;
                }
            }
            return parts;
        }

        int squares(Lines card, int a, int b) {
            clear(pairs);
            int together = 0;
            for (int n = 0; n < number; n++) {
                int t = tongueOf(n);
                int i = card.had(a, t) * SETS + card.had(b, t);
                int many = at(pairs, i) + 1;
                put(pairs, i, many);
                // many * many less the square counted before
                together += 2 * many - 1;
            }
            return together;
        }

        int drawnBy(int seed) {
            long lot = (seed + 1L) * 48271L % 2147483647L;
            return number > 0 ? tongueOf((int) (lot % number)) : 0;
        }
    }

    /** The best way to serve each guest one safe line, or none. */
    private static final class Tonight {
        private static final int UNSAFE = -1;

        private final int[] likings = new int[MOST_GUESTS * MOST_LINES];
        private final int[] way = new int[MOST_GUESTS];
        private final int[] best = new int[MOST_GUESTS];
        private int liked;
        private int spent;

        void offer(int g, int l, int liking) {
            put(likings, g * MOST_LINES + l, liking);
        }

        void plan(int guests, Lines card, int coin) {
            liked = NONE;
            serve(0, guests, card, coin, 0);
            spent = 0;
            for (int g = 0; g < guests; g++) {
                int l = at(best, g);
                spent += l == NONE ? 0 : card.priceOf(l);
            }
        }

        /** Ways come in the order of their rows, so that of like ones the first stays. */
        private void serve(int g, int guests, Lines card, int coin, int sum) {
            if (g >= guests || g >= MOST_GUESTS) {
                keepIfBetter(sum);
                return;
            }
            put(way, g, NONE);
            serve(g + 1, guests, card, coin, sum);
            for (int l = 0; l < card.number; l++) {
                int liking = at(likings, g * MOST_LINES + l);
                int price = card.priceOf(l);
                if (liking != UNSAFE && price <= coin) {
                    put(way, g, l);
                    serve(g + 1, guests, card, coin - price, sum + liking);
                }
            }
        }

        private void keepIfBetter(int sum) {
            if (sum > liked) {
                liked = sum;
                System.arraycopy(way, 0, best, 0, MOST_GUESTS);
            }
        }
    }

    private static final class Image {
        private final int[] prices = new int[MOST_LINES];
        private boolean there;
        private int lines;
        private int guests;
        private int facts;
        private int coin;
        private int law;
    }

    /** Sheets stand in one row of cells, each with room for the largest. */
    private static final class Sheets {
        private final int[] sorts = {MISSING, MISSING, MISSING, MISSING};
        private final int[] sizes = new int[SHEETS];
        private final int[] cells = new int[SHEETS * MOST_CELLS];

        boolean isMissing(int s) {
            return sortOf(s) == MISSING;
        }

        int sortOf(int s) {
            return at(sorts, s);
        }

        int sizeOf(int s) {
            return at(sizes, s);
        }

        void become(int s, int sort, int n) {
            put(sorts, s, sort);
            put(sizes, s, n);
            for (int i = 0; i < MOST_CELLS; i++) {
                put(cells, s * MOST_CELLS + i, 0);
            }
        }

        int read(int s, int i) {
            return at(cells, s * MOST_CELLS + i);
        }

        void write(int s, int i, int v) {
            int sort = sortOf(s);
            put(cells, s * MOST_CELLS + i, sort == BYTES ? (byte) v : sort == SHORTS ? (short) v : v);
        }

        void move(int s, int i, int other, int j, int n) {
            int from = s * MOST_CELLS + i;
            int to = other * MOST_CELLS + j;
            if (n >= 0 && within(from, 0, cells.length - n) && within(to, 0, cells.length - n)) {
                System.arraycopy(cells, from, cells, to, n);
            }
        }
    }

    /**
     * THE TAPE, and the tokens it is cut into. A token is a number: a mark is its byte, a key and a
     * name as told here, a number its value above NUMBER. What can stand nowhere is ODD; so a
     * fault of a token comes up where it is read, behind the faults ahead of it.
     */
    private static final class Tape {
        private static final int END = 0, ODD = 1;
        private static final int MAY = 256, LIKES = 257, LEARNS = 258, OR = 259, AND = 260, NOT = 261;
        private static final int NAME = 300, NUMBER = 1000;
        private static final int MOST_DIGITS = 4;
        private static final String MARKS = "();+-*<=";

        private final int[] bytes = new int[MOST_BYTES];
        private final int[] tokens = new int[MOST_BYTES + 1];
        private final int[] places = new int[MOST_BYTES + 1];
        private int size;

        void add(int b) {
            if (size < MOST_BYTES) {
                put(bytes, size, b);
                size++;
            }
        }

        void empty() {
            size = 0;
        }

        /** The last token is END, at the place behind the last byte. */
        void cut() {
            int n = 0;
            int end = 0;
            for (int place = 0; place < size; place++) {
                if (place >= end && !isBlank(at(bytes, place))) {
                    end = endOf(place);
                    put(tokens, n, tokenOf(place, end));
                    put(places, n, place);
                    n++;
                }
            }
            put(tokens, n, END);
            put(places, n, size);
        }

        private static boolean isBlank(int b) {
            return b == 32 || b == 10;
        }

        private static boolean isLetter(int b) {
            return within(b, 'a', 'z');
        }

        private static boolean isDigit(int b) {
            return within(b, '0', '9');
        }

        /** Where the token that begins at a place ends. */
        private int endOf(int place) {
            int end = place + 1;
            boolean letters = isLetter(at(bytes, place));
            boolean digits = isDigit(at(bytes, place));
            while (end < size && (letters && isLetter(at(bytes, end)) || digits && isDigit(at(bytes, end)))) {
                end++;
            }
            return end;
        }

        private int tokenOf(int start, int end) {
            int b = at(bytes, start);
            if (isLetter(b)) {
                return word(start, end);
            }
            if (isDigit(b)) {
                return end - start > MOST_DIGITS ? ODD : NUMBER + value(start, end);
            }
            return MARKS.indexOf((char) b) >= 0 ? b : ODD;
        }

        private int value(int start, int end) {
            int value = 0;
            for (int i = start; i < end; i++) {
                value = value * 10 + at(bytes, i) - '0';
            }
            return value;
        }

        private int word(int start, int end) {
            return spells("may", start, end) ? MAY
                    : spells("likes", start, end) ? LIKES
                    : spells("learns", start, end) ? LEARNS
                    : spells("or", start, end) ? OR
                    : spells("and", start, end) ? AND
                    : spells("not", start, end) ? NOT
                    : spells("price", start, end) ? NAME + Texts.PRICE
                    : spells("parts", start, end) ? NAME + Texts.SET
                    : spells("place", start, end) ? NAME + Texts.PLACE
                    : spells("many", start, end) ? NAME + Texts.MANY
                    : spells("guest", start, end) ? NAME + Texts.GUEST
                    : spells("left", start, end) ? NAME + Texts.LEFT : ODD;
        }

        private boolean spells(String word, int start, int end) {
            if (end - start != word.length()) {
                return false;
            }
            for (int i = 0; i < word.length(); i++) {
                if (at(bytes, start + i) != word.charAt(i)) {
                    return false;
                }
            }
            return true;
        }
    }

    /**
     * The texts, each as steps for a stack: a name or a number is put on it, any other token works
     * on what lies on top. The reading methods answer whether all was sound; if not, the next token
     * is the one that can't stand there.
     */
    private static final class Texts {
        private static final int PRICE = 0, SET = 1, PLACE = 2, MANY = 3, GUEST = 4, LEFT = 5, NAMES = 6;
        private static final int NEGATE = 262;
        private static final int MOST_LIKED = 99, MOST_LEARNED = 999;
        /** Five waiting values a level (of or, and, <, +, *), six levels, and one on top. */
        private static final int STACK = 31;

        private final Tape tape = new Tape();
        private final int[] steps = new int[MOST_TEXTS * MOST_BYTES];
        private final int[] ends = new int[MOST_TEXTS * TEXT_PARTS];
        private final int[] stack = new int[STACK];
        private final int[] names = new int[NAMES];
        private int number;
        /** How many steps the text that is read has so far. */
        private int length;
        /** The number of the token that is read next. */
        private int next;

        Texts() {
            for (int i = 0; i < FIRST_TEXT.length(); i++) {
                tape.add(FIRST_TEXT.charAt(i));
            }
            read();
        }

        /** The tape becomes the next text: NONE, or the place of its fault. */
        int read() {
            length = 0;
            next = 0;
            tape.cut();
            boolean sound = readPart(Tape.MAY, MAY_HAVE) && readPart(Tape.LIKES, LIKED)
                    && readPart(Tape.LEARNS, LEARNED) && token() == Tape.END;
            tape.empty();
            if (!sound) {
                return at(tape.places, next);
            }
            number++;
            return NONE;
        }

        private boolean readPart(int key, int part) {
            if (!pass(key) || !readEither(0) || !pass(';')) {
                return false;
            }
            put(ends, number * TEXT_PARTS + part, length);
            return true;
        }

        private int token() {
            return at(tape.tokens, next);
        }

        private boolean pass(int token) {
            if (token() != token) {
                return false;
            }
            next++;
            return true;
        }

        /** Each step stands for a token of its own, so a text has no more steps than bytes. */
        private void write(int step) {
            put(steps, number * MOST_BYTES + length, step);
            length++;
        }

        private boolean readEither(int open) {
            if (!readBoth(open)) {
                return false;
            }
            for (int n = 0; n < MOST_BYTES && pass(Tape.OR); n++) {
                if (!readBoth(open)) {
                    return false;
                }
                write(Tape.OR);
            }
            return true;
        }

        private boolean readBoth(int open) {
            if (!readNot(open)) {
                return false;
            }
            for (int n = 0; n < MOST_BYTES && pass(Tape.AND); n++) {
                if (!readNot(open)) {
                    return false;
                }
                write(Tape.AND);
            }
            return true;
        }

        private boolean readNot(int open) {
            if (token() != Tape.NOT) {
                return readCompared(open);
            }
            if (open >= MOST_OPEN) {
                return false;
            }
            next++;
            if (!readNot(open + 1)) {
                return false;
            }
            write(Tape.NOT);
            return true;
        }

        private boolean readCompared(int open) {
            if (!readSum(open)) {
                return false;
            }
            int mark = token();
            if (mark != '<' && mark != '=') {
                return true;
            }
            next++;
            if (!readSum(open)) {
                return false;
            }
            write(mark);
            return true;
        }

        private boolean readSum(int open) {
            if (!readTerm(open)) {
                return false;
            }
            for (int n = 0; n < MOST_BYTES && (token() == '+' || token() == '-'); n++) {
                int mark = token();
                next++;
                if (!readTerm(open)) {
                    return false;
                }
                write(mark);
            }
            return true;
        }

        private boolean readTerm(int open) {
            if (!readOne(open)) {
                return false;
            }
            for (int n = 0; n < MOST_BYTES && pass('*'); n++) {
                if (!readOne(open)) {
                    return false;
                }
                write('*');
            }
            return true;
        }

        private boolean readOne(int open) {
            int token = token();
            if (token >= Tape.NAME) {
                next++;
                write(token);
                return true;
            }
            if (token != '-' && token != '(' || open >= MOST_OPEN) {
                return false;
            }
            next++;
            if (token == '(') {
                return readEither(open + 1) && pass(')');
            }
            if (!readOne(open + 1)) {
                return false;
            }
            write(NEGATE);
            return true;
        }

        /** What a part of a text says, within its bounds. */
        int says(int t, int part, int price, int set, int place, int guest, int left) {
            put(names, PRICE, price);
            put(names, SET, set);
            put(names, PLACE, place);
            put(names, MANY, Integer.bitCount(set));
            put(names, GUEST, guest);
            put(names, LEFT, left);
            int value = valueOf(t, part);
            if (part == MAY_HAVE) {
                return value != 0 ? 1 : 0;
            }
            return Math.max(0, Math.min(part == LIKED ? MOST_LIKED : MOST_LEARNED, value));
        }

        private int valueOf(int t, int part) {
            int from = part == MAY_HAVE ? 0 : at(ends, t * TEXT_PARTS + part - 1);
            int to = at(ends, t * TEXT_PARTS + part);
            int top = -1;
            for (int i = from; i < to; i++) {
                int step = at(steps, t * MOST_BYTES + i);
                if (step >= Tape.NAME) {
                    top++;
                    put(stack, top, step >= Tape.NUMBER ? step - Tape.NUMBER : at(names, step - Tape.NAME));
                } else if (step == Tape.NOT) {
                    put(stack, top, at(stack, top) == 0 ? 1 : 0);
                } else if (step == NEGATE) {
                    put(stack, top, -at(stack, top));
                } else {
                    top--;
                    put(stack, top, joined(step, at(stack, top), at(stack, top + 1)));
                }
            }
            return at(stack, 0);
        }

        private static int joined(int step, int a, int b) {
            switch (step) {
                case '*':
                    return a * b;
                case '+':
                    return a + b;
                case '-':
                    return a - b;
                case '<':
                    return a < b ? 1 : 0;
                case '=':
                    return a == b ? 1 : 0;
                case Tape.AND:
                    return a != 0 && b != 0 ? 1 : 0;
                default:
                    return a != 0 || b != 0 ? 1 : 0;
            }
        }
    }
}
