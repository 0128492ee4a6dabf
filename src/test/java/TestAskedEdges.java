import java.util.function.IntUnaryOperator;

/** The edges that promises 16 to 40 name: of what is asked of the tongues that fit. */
public final class TestAskedEdges {
    private static final int[] NO_SIGNS = {-1, 6, Cards.LEAST, Cards.MOST};
    private static final int[] NO_WHATS = {-1, 2, Cards.LEAST, Cards.MOST};
    /** Of none(), half() and full(), too. */
    private static final int[] NO_LINES = {-1, 10, Cards.LEAST, Cards.MOST};

    private TestAskedEdges() {
    }

    private static void due(String call, long got, long want) {
        Check.due(call, got, want);
    }

    private static void fraction(String told, long above, long below, long wantAbove, long wantBelow) {
        due(told + ", above", above, wantAbove);
        due(told + ", below", below, wantBelow);
    }

    public static void main(String[] args) {
        kinds();
        oneTongue();
        signs();
        mostDoubt();
        odds();
        has();
        partsOfLine();
        safe();
        risk();
        tonight();
        likeWays();
        coinAtItsBounds();
        middle();
        taste();
        two();
        ask();
        would();
        clash();
        idle();
        bill();
        billBounds();
        laws();
        drawn();
        chance();
        whatIsAsked();
        Check.end();
    }

    // ---- 16

    /** How many fit, if line 0 of signs 0, 1, 2 and line 1 of signs 2, 3 are there, and just this fact. */
    private static void fits(int kind, int parts, int more, int want) {
        CardNobodyReads x = Cards.blank();
        x.line(7, 10);
        x.line(12, 10);
        String told = "kind " + kind + ", parts " + parts + ", more " + more;
        due("32: " + told, x.would(kind, 0, parts, more), want);
        due("13: " + told, x.know(kind, 0, parts, more), 0);
        due("16: " + told, x.sets(), want);
    }

    private static void kinds() {
        due("16: no facts", Cards.blank().sets(), 720);
        due("16: none", Cards.none().sets(), 0);
        due("16: some", Cards.half().sets(), 36);
        for (int parts = 0; parts < 64; parts++) {
            int many = Integer.bitCount(parts);
            fits(0, parts, 0, 720);
            fits(1, parts, 0, many == 3 ? 36 : 0);
            // of parts the ones that a line of three has: ways to choose the others, times 36
            int[] seen = {20, 10, 4, 1, 0, 0, 0};
            fits(2, parts, 0, 36 * seen[many]);
            int[] safe = {20, 10, 4, 1, 0, 0, 0};
            fits(5, parts, 0, 36 * safe[many]);
            // both have sign 2's part and no other, but for a line's own
            fits(4, parts, 1, many == 1 ? 120 : 0);
            fits(4, parts, 0, many == 3 ? 36 : 0);
            guessed(parts, many);
        }
    }

    private static void guessed(int parts, int many) {
        for (int more = 0; more <= 9; more++) {
            int fit = 0;
            for (int in = 0; in <= Math.min(3, many); in++) {
                // in of the many and the rest of the 6 less many
                int inside = ways(many, in);
                int outside = 3 - in <= 6 - many ? ways(6 - many, 3 - in) : 0;
                fit += in >= more || in == many ? 36 * inside * outside : 0;
            }
            fits(3, parts, more, fit);
        }
    }

    private static int ways(int of, int n) {
        if (n > of) {
            return 0;
        }
        int ways = 1;
        for (int i = 0; i < n; i++) {
            ways = ways * (of - i) / (i + 1);
        }
        return ways;
    }

    /** If just one tongue fits, all is sure; the first, the last and one between. */
    private static void oneTongue() {
        int[][] tongues = {{0, 1, 2, 3, 4, 5}, {5, 4, 3, 2, 1, 0}, {1, 2, 3, 4, 5, 0}, {0, 1, 2, 3, 5, 4}};
        for (int[] tongue : tongues) {
            CardNobodyReads x = Cards.one(tongue);
            x.guest(1);
            due("16: one", x.sets(), 1);
            due("38: one", x.laws(), 1);
            due("20: of like ones the first", x.doubt(-1), 0);
            x.sheet(3, 2, 6);
            for (int sign = 0; sign < 6; sign++) {
                int part = tongue[sign];
                due("17: one", x.first(sign), part);
                due("19: one", x.sure(sign), part);
                due("20: one", x.doubt(sign), 1);
                due("18: one", x.means(sign, part), 1);
                due("18: another", x.means(sign, (part + 1) % 6), 0);
                fraction("21: one", x.odds(sign, part, 0), x.odds(sign, part, 1), 1, 1);
                due("23: all", x.partsOfLine(sign, 0), 1 << part);
                due("23: any", x.partsOfLine(sign, 1), 1 << part);
                due("39: seed 0", x.drawn(0, sign), part);
                due("39: seed 99999", x.drawn(99999, sign), part);
                int shunned = part == 0 ? 1 : 0;
                fraction("40: one", x.chance(0, sign, 99999, 30, 0), x.chance(0, sign, 99999, 30, 1), shunned, 1);
                x.cell(3, sign, 1 << part);
            }
            due("36: as the sheet tells", x.match(3), 1);
            x.cell(3, 0, 1 << tongue[1]);
            due("36: but for line 0", x.match(3), 0);
            x.cell(3, 0, 1 << tongue[0]);
            x.cell(3, 5, 1 << tongue[1]);
            due("36: but for line 5", x.match(3), 0);
            due("37: film", x.film(3), 6);
            due("36: as the film tells", x.match(3), 1);
        }
    }

    // ---- 17 to 23

    private static void signs() {
        for (CardNobodyReads x : new CardNobodyReads[] {Cards.blank(), Cards.half(), Cards.none(), Cards.full()}) {
            for (int bad : NO_SIGNS) {
                due("17: sign " + bad, x.first(bad), -5);
                due("18: sign " + bad, x.means(bad, 0), -5);
                due("18: part " + bad, x.means(0, bad), -5);
                due("18: both " + bad, x.means(bad, bad), -5);
                due("19: sign " + bad, x.sure(bad), -5);
                due("20: sign " + bad, x.doubt(bad == -1 ? -2 : bad), -5);
            }
        }
        CardNobodyReads none = Cards.none();
        CardNobodyReads half = Cards.half();
        int[] first = {0, 1, 3, 2, 4, 5};
        int[] doubt = {2, 2, 3, 4, 4, 4};
        for (int sign = 0; sign < 6; sign++) {
            due("17: the first " + sign, half.first(sign), first[sign]);
            due("17: none fits", none.first(sign), -1);
            due("18: none fits", none.means(sign, 5), 0);
            due("19: not sure", half.sure(sign), -1);
            due("19: none fits", none.sure(sign), -1);
            due("20: doubt " + sign, half.doubt(sign), doubt[sign]);
            due("20: none fits", none.doubt(sign), 0);
            due("20: all", Cards.blank().doubt(sign), 6);
            due("18: all", Cards.blank().means(sign, 5 - sign), 120);
        }
        due("18: sign 2, part 2", half.means(2, 2), 0);
        due("18: sign 2, part 3", half.means(2, 3), 12);
        due("18: sign 3, part 2", half.means(3, 2), 12);
        due("18: sign 3, part 3", half.means(3, 3), 8);
    }

    private static void mostDoubt() {
        due("20: of like ones the first", Cards.blank().doubt(-1), 0);
        due("20: none fits", Cards.none().doubt(-1), 0);
        due("20: sign 3 of four parts", Cards.half().doubt(-1), 3);
        int[][] sure = {{0}, {0, 1}, {5}, {1, 2, 3}, {0, 2, 3, 5}};
        int[] most = {1, 2, 0, 0, 1};
        for (int i = 0; i < sure.length; i++) {
            CardNobodyReads x = Cards.blank();
            for (int sign : sure[i]) {
                int l = x.line(1 << sign, 1);
                x.know(1, l, 1 << sign, 0);
            }
            due("20: but for " + sure[i].length + " that are sure", x.doubt(-1), most[i]);
        }
        CardNobodyReads x = Cards.blank();
        x.line(31, 1);
        x.line(1, 1);
        x.know(5, 0, 48, 0);
        // sign 0 has 4 parts, each other one has 6
        due("20: the second one", x.doubt(-1), 1);
        x = Cards.blank();
        for (int sign = 0; sign < 5; sign++) {
            x.line(1 << sign, 1);
            x.know(5, sign, 1 << sign, 0);
        }
        due("20: the last one", x.doubt(5), 6);
        due("20: the last one", x.doubt(-1), 5);
    }

    private static void odds() {
        CardNobodyReads half = Cards.half();
        for (int bad : NO_SIGNS) {
            due("21: sign " + bad, half.odds(bad, 0, 0), Cards.NO);
            due("21: part " + bad, half.odds(0, bad, 1), Cards.NO);
        }
        for (int bad : NO_WHATS) {
            due("21: p " + bad, half.odds(0, 0, bad), Cards.NO);
        }
        due("21: none fits", Cards.none().odds(0, 0, 0), Cards.NO);
        due("21: none fits", Cards.none().odds(5, 5, 1), Cards.NO);
        fraction("21: never", half.odds(5, 0, 0), half.odds(5, 0, 1), 0, 1);
        fraction("21: 8 of 36", half.odds(5, 5, 0), half.odds(5, 5, 1), 2, 9);
        fraction("21: 12 of 36", half.odds(5, 2, 0), half.odds(5, 2, 1), 1, 3);
        fraction("21: the last of all", Cards.blank().odds(5, 5, 0), Cards.blank().odds(5, 5, 1), 1, 6);
    }

    private static void has() {
        CardNobodyReads half = Cards.half();
        for (int bad : NO_LINES) {
            due("22: line " + bad, half.has(bad, 1, 0), Cards.NO);
            due("22: line " + bad, Cards.full().has(bad, 1, 0), Cards.NO);
        }
        due("22: line 4 of 4", half.has(4, 1, 0), Cards.NO);
        due("22: no lines", Cards.blank().has(0, 0, 0), Cards.NO);
        for (int bad : new int[] {-1, 64, Cards.LEAST, Cards.MOST}) {
            due("22: parts " + bad, half.has(0, bad, 0), Cards.NO);
        }
        for (int bad : NO_WHATS) {
            due("22: p " + bad, half.has(0, 1, bad), Cards.NO);
        }
        due("22: none fits", Cards.none().has(0, 0, 0), Cards.NO);
        due("22: none fits", Cards.none().has(0, 3, 1), Cards.NO);
        fraction("22: no parts", half.has(3, 0, 0), half.has(3, 0, 1), 1, 1);
        fraction("22: all parts", half.has(0, 63, 0), half.has(0, 63, 1), 0, 1);
        fraction("22: just its own", half.has(0, 3, 0), half.has(0, 3, 1), 1, 1);
        fraction("22: one more", half.has(0, 7, 0), half.has(0, 7, 1), 0, 1);
        fraction("22: 8 of 36", half.has(3, 32, 0), half.has(3, 32, 1), 2, 9);
        fraction("22: both of two, 6 of 36", half.has(2, 9, 0), half.has(2, 9, 1), 1, 6);
    }

    private static void partsOfLine() {
        CardNobodyReads half = Cards.half();
        for (int bad : NO_LINES) {
            for (int what : new int[] {-1, 0, 1, 2}) {
                due("23: line " + bad, half.partsOfLine(bad, what), -5);
                due("23: line " + bad + ", none fits", Cards.none().partsOfLine(bad, what), -5);
            }
        }
        due("23: line 4 of 4", half.partsOfLine(4, 0), -5);
        due("23: no lines", Cards.blank().partsOfLine(0, 0), -5);
        for (int bad : NO_WHATS) {
            due("23: what " + bad, half.partsOfLine(3, bad), -7);
            due("23: what " + bad + ", none fits", Cards.none().partsOfLine(3, bad), -7);
        }
        int[] all = {3, 0, 0, 0};
        int[] any = {3, 56, 59, 60};
        for (int l = 0; l < 4; l++) {
            due("23: all, line " + l, half.partsOfLine(l, 0), all[l]);
            due("23: any, line " + l, half.partsOfLine(l, 1), any[l]);
            due("23: all, none fits", Cards.none().partsOfLine(l, 0), -1);
            due("23: any, none fits", Cards.none().partsOfLine(l, 1), -1);
        }
    }

    // ---- 24 and 25

    private static void safe() {
        CardNobodyReads half = Cards.half();
        int[] safe = {7, 10, 0};
        for (int g = 0; g < 3; g++) {
            due("24: guest " + g, half.safe(g), safe[g]);
            due("24: none fits", Cards.none().safe(g), 0);
        }
        for (int bad : new int[] {-1, 3, 4, Cards.LEAST, Cards.MOST}) {
            due("24: guest " + bad, half.safe(bad), -5);
            due("24: guest " + bad + ", none fits", Cards.none().safe(bad), -5);
        }
        due("24: no guests", Cards.blank().safe(0), -5);
        due("24: guest 4 of 4", Cards.full().safe(4), -5);
        CardNobodyReads x = Cards.full();
        // signs are parts of their own number: lines 0 .. 5 one part each, 6 .. 9 parts 0, 1, 2
        int[] ofAll = {0b0000111110, 0b0000111101, 0b0000111011, 0b1111110111};
        for (int g = 0; g < 4; g++) {
            due("24: of ten lines, guest " + g, x.safe(g), ofAll[g]);
        }
        CardNobodyReads all = Cards.none();
        all.guest(0);
        due("24: who shuns nothing, none fits", all.safe(3), 0);
        CardNobodyReads y = Cards.half();
        y.guest(0);
        due("24: who shuns nothing", y.safe(3), 15);
        CardNobodyReads z = Cards.blank();
        z.guest(0);
        due("24: no lines", z.safe(0), 0);
    }

    private static void risk() {
        CardNobodyReads half = Cards.half();
        for (int bad : new int[] {-1, 3, 4, Cards.LEAST, Cards.MOST}) {
            due("25: guest " + bad, half.risk(bad, 0, 0), Cards.NO);
        }
        for (int bad : NO_LINES) {
            due("25: line " + bad, half.risk(0, bad, 0), Cards.NO);
        }
        due("25: line 4 of 4", half.risk(0, 4, 0), Cards.NO);
        due("25: no guests", Cards.one(0, 1, 2, 3, 4, 5).risk(0, 0, 0), Cards.NO);
        for (int bad : NO_WHATS) {
            due("25: p " + bad, half.risk(0, 0, bad), Cards.NO);
        }
        due("25: none fits", Cards.none().risk(0, 0, 0), Cards.NO);
        due("25: none fits", Cards.none().risk(2, 3, 1), Cards.NO);
        fraction("25: never", half.risk(0, 0, 0), half.risk(0, 0, 1), 0, 1);
        fraction("25: ever", half.risk(2, 3, 0), half.risk(2, 3, 1), 1, 1);
        fraction("25: 12 of 36", half.risk(0, 3, 0), half.risk(0, 3, 1), 1, 3);
        fraction("25: 18 of 36", half.risk(1, 2, 0), half.risk(1, 2, 1), 1, 2);
    }

    // ---- 26 to 28

    private static void orders(String told, CardNobodyReads x, int liking, int prices, int... lines) {
        for (int g = 0; g < lines.length; g++) {
            due("26: " + told + ", guest " + g, x.order(g), lines[g]);
        }
        due("27: " + told + ", liking", x.ordered(0), liking);
        due("27: " + told + ", prices", x.ordered(1), prices);
    }

    private static void tonight() {
        CardNobodyReads half = Cards.half();
        orders("half", half, 252 + 216, 31, 0, 1, -1);
        for (int bad : new int[] {-1, 3, 4, Cards.LEAST, Cards.MOST}) {
            due("26: guest " + bad, half.order(bad), -5);
            due("26: guest " + bad + ", none fits", Cards.none().order(bad), -5);
        }
        due("26: no guests", Cards.blank().order(0), -5);
        due("26: guest 4 of 4", Cards.full().order(4), -5);
        for (int bad : NO_WHATS) {
            due("27: what " + bad, half.ordered(bad), -2);
            due("27: what " + bad, Cards.blank().ordered(bad), -2);
        }
        orders("none fits", Cards.none(), 0, 0, -1, -1, -1);
        orders("no guests, no lines", Cards.blank(), 0, 0);
        orders("no guests", Cards.one(0, 1, 2, 3, 4, 5), 0, 0);
        CardNobodyReads noLines = Cards.blank();
        noLines.guest(0);
        orders("no lines", noLines, 0, 0, -1);
        CardNobodyReads ten = withLaw("place");
        orders("the last of ten for each of four", ten, 4 * 9 * 720, 40, 9, 9, 9, 9);
        ten.set(9, 99);
        ten.pays(396);
        orders("dear", ten, 4 * 9 * 720, 396, 9, 9, 9, 9);
        ten.pays(395);
        orders("and a coin too few", ten, (3 * 9 + 8) * 720, 307, 8, 9, 9, 9);
    }

    /** Ten lines of sign 0, each at 10, four guests who shun nothing, a law of these likes. */
    private static CardNobodyReads withLaw(String likes) {
        CardNobodyReads x = Cards.blank();
        for (int l = 0; l < 10; l++) {
            x.line(1, 10);
        }
        for (int g = 0; g < 4; g++) {
            x.guest(0);
        }
        Cards.text(x, "may 1;likes " + likes + ";learns 1;");
        x.force(1);
        return x;
    }

    private static void likeWays() {
        CardNobodyReads x = withLaw("5");
        orders("all like", x, 4 * 5 * 720, 40, 0, 0, 0, 0);
        x.pays(39);
        orders("three of four", x, 3 * 5 * 720, 30, -1, 0, 0, 0);
        x.pays(29);
        orders("two of four", x, 2 * 5 * 720, 20, -1, -1, 0, 0);
        x.pays(10);
        orders("one of four", x, 5 * 720, 10, -1, -1, -1, 0);
        x.pays(9);
        orders("none of four", x, 0, 0, -1, -1, -1, -1);
        orders("none liked", withLaw("0"), 0, 0, -1, -1, -1, -1);
        orders("guest 1 alone", withLaw("guest=1"), 720, 10, -1, 0, -1, -1);
        orders("lines 4 and 7 alike", withLaw("place=4 or place=7"), 4 * 720, 40, 4, 4, 4, 4);
        CardNobodyReads cheap = withLaw("1");
        cheap.set(0, 11);
        cheap.pays(40);
        orders("the first by rows, not the cheapest", cheap, 4 * 720, 40, 1, 1, 1, 1);
        cheap.pays(41);
        orders("the first by rows", cheap, 4 * 720, 41, 0, 1, 1, 1);
        CardNobodyReads most = withLaw("999");
        orders("99 at most", most, 4 * 99 * 720, 40, 0, 0, 0, 0);
        due("28: 99 at most", most.middle(1023), 4 * 99 * 720);
        orders("left is how many fit", withLaw("left-700"), 4 * 20 * 720, 40, 0, 0, 0, 0);
    }

    private static void coinAtItsBounds() {
        CardNobodyReads x = withLaw("5");
        for (int l = 0; l < 10; l++) {
            x.set(l, 1);
        }
        x.pays(0);
        orders("no coin", x, 0, 0, -1, -1, -1, -1);
        x.pays(1);
        orders("one coin", x, 3600, 1, -1, -1, -1, 0);
        x.pays(4);
        orders("four coins", x, 14400, 4, 0, 0, 0, 0);
        x.pays(999);
        orders("all coins", x, 14400, 4, 0, 0, 0, 0);
    }

    private static void middle() {
        CardNobodyReads half = Cards.half();
        int[] want = {0, 252, 468, 468, 252, 252, 468, 468, 216, 468};
        for (int set = 0; set < want.length; set++) {
            due("28: lines " + set, half.middle(set), want[set]);
        }
        due("28: all lines", half.middle(15), 468);
        for (int bad : new int[] {-1, 16, 17, 1024, Cards.LEAST, Cards.MOST}) {
            due("28: lines " + bad, half.middle(bad), -2);
            due("28: lines " + bad + ", none fits", Cards.none().middle(bad), -2);
        }
        due("28: of ten", Cards.full().middle(1024), -2);
        due("28: all ten", withLaw("place").middle(1023), 4 * 9 * 720);
        due("28: the last of ten", withLaw("place").middle(512), 4 * 9 * 720);
        due("28: all but the last", withLaw("place").middle(511), 4 * 8 * 720);
        due("28: none fits", Cards.none().middle(15), 0);
        due("28: none", Cards.none().middle(0), 0);
        due("28: no lines", Cards.blank().middle(0), 0);
        due("28: no lines", Cards.blank().middle(1), -2);
        CardNobodyReads poor = Cards.half();
        poor.pays(0);
        due("28: coin is not asked", poor.middle(15), 468);
    }

    // ---- 29 to 31

    /** The law says what is learned; ten lines of sign 0. */
    private static void tastes(String learns, int line, int much) {
        CardNobodyReads x = Cards.blank();
        for (int l = 0; l < 10; l++) {
            x.line(1, 10);
        }
        Cards.text(x, "may 1;likes 1;learns " + learns + ";");
        x.force(1);
        due("29: the line by " + learns, x.taste(0), line);
        due("29: how much by " + learns, x.taste(1), much);
    }

    private static void taste() {
        for (int bad : NO_WHATS) {
            due("29: what " + bad, Cards.half().taste(bad), -2);
            due("29: what " + bad + ", no lines", Cards.blank().taste(bad), -2);
        }
        due("29: no lines", Cards.blank().taste(0), -1);
        due("29: no lines", Cards.blank().taste(1), 0);
        due("29: none fits", Cards.none().taste(0), 0);
        due("29: none fits", Cards.none().taste(1), 0);
        due("29: half", Cards.half().taste(0), 0);
        due("29: half", Cards.half().taste(1), 36 * 8);
        tastes("place", 9, 9 * 720);
        tastes("9-place", 0, 9 * 720);
        tastes("5", 0, 5 * 720);
        tastes("0", 0, 0);
        tastes("0-1", 0, 0);
        tastes("1000", 0, 999 * 720);
        tastes("place=4 or place=7", 4, 720);
        tastes("place=9", 9, 720);
        tastes("guest+1", 0, 720);
        // sign 0 is each part in 120
        tastes("left", 0, 120 * 720);
        tastes("parts", 0, 120 * 63);
    }

    private static void two() {
        for (int bad : NO_WHATS) {
            due("30: what " + bad, Cards.half().two(bad), -2);
            due("30: what " + bad + ", no lines", Cards.blank().two(bad), -2);
        }
        due("30: no lines", Cards.blank().two(0), -1);
        due("30: no lines", Cards.blank().two(1), 0);
        CardNobodyReads one = Cards.blank();
        one.line(1, 1);
        due("30: one line", one.two(0), -1);
        due("30: one line", one.two(1), 0);
        due("30: none fits", Cards.none().two(0), 1);
        due("30: none fits", Cards.none().two(1), 0);
        CardNobodyReads x = Cards.blank();
        x.line(1, 1);
        x.line(2, 1);
        x.line(1, 1);
        // by signs 0 and 1: 30 times 24
        due("30: of like ones the first", x.two(0), 1);
        due("30: how much", x.two(1), 30 * 24 * 24);
        CardNobodyReads y = Cards.blank();
        y.line(1, 1);
        y.line(1, 1);
        y.line(2, 1);
        due("30: the second pair", y.two(0), 2);
        y.line(2, 1);
        due("30: of like ones the first by the lesser", y.two(0), 2);
        CardNobodyReads ten = Cards.blank();
        for (int l = 0; l < 8; l++) {
            ten.line(1, 1);
        }
        ten.line(14, 1);
        ten.line(50, 1);
        // sign 1's part, signs 2 and 3, signs 4 and 5: 180 times 4
        due("30: the last pair of ten", ten.two(0), 89);
        due("30: how much", ten.two(1), 180 * 16);
        CardNobodyReads like = Cards.blank();
        like.line(1, 1);
        like.line(1, 1);
        due("30: the same line twice", like.two(1), 6 * 120 * 120);
        due("30: one tongue", Cards.one(0, 1, 2, 3, 4, 5).two(1), 1);
        due("30: one tongue", Cards.one(0, 1, 2, 3, 4, 5).two(0), 1);
    }

    private static void ask() {
        for (int bad : NO_WHATS) {
            due("31: what " + bad, Cards.half().ask(bad), -2);
            due("31: what " + bad + ", no lines", Cards.blank().ask(bad), -2);
        }
        due("31: no lines", Cards.blank().ask(0), -1);
        due("31: no lines", Cards.blank().ask(1), 0);
        due("31: none fits", Cards.none().ask(0), 0);
        due("31: none fits", Cards.none().ask(1), 0);
        due("31: one tongue", Cards.one(0, 1, 2, 3, 4, 5).ask(0), 0);
        due("31: one tongue", Cards.one(0, 1, 2, 3, 4, 5).ask(1), 0);
        CardNobodyReads first = Cards.blank();
        first.line(1, 1);
        first.line(1, 1);
        due("31: of like ones the first", first.ask(0), 0);
        due("31: a sixth", first.ask(1), 120);
        CardNobodyReads most = Cards.blank();
        most.line(1, 1);
        most.line(7, 1);
        most.line(3, 1);
        due("31: a half is most", most.ask(0), 10);
        due("31: a half is most", most.ask(1), 360);
        CardNobodyReads ten = Cards.blank();
        for (int l = 0; l < 9; l++) {
            ten.line(32, 1);
        }
        ten.line(7, 1);
        Cards.text(ten, "may place<9 or parts=38 or parts=42 or parts=50 or parts=7 or parts=14 or parts=22;"
                + "likes 1;learns 1;");
        ten.force(1);
        // part 5 is in three of the six, part 1 in all, part 2 in four, the others in one or two
        due("16: six dishes", ten.sets(), 6 * 36);
        due("31: the last part of the last line", ten.ask(0), 95);
        due("31: a half", ten.ask(1), 108);
    }

    // ---- 32 to 34

    private static void would() {
        Edge.leaves("32: twelve", Cards::full, x -> x.would(0, 0, 0, 0), -3);
        Edge.leaves("32: twelve ahead of bad", Cards::full, x -> x.would(6, 0, 0, 0), -3);
        Edge.leaves("32: twelve ahead of bad", Cards::full, x -> x.would(4, 10, -1, 10), -3);
        CardNobodyReads x = Cards.full();
        x.forget();
        due("32: eleven", x.would(0, 9, 63, 9), 1);
        due("32: eleven, none", x.would(1, 9, 63, 9), 0);
        due("32: eleven, bad", x.would(6, 0, 0, 0), -2);
        due("32: the last of ten is shared", x.would(4, 9, 7, 9), 1);
        due("32: none fits", Cards.none().would(0, 0, 0, 0), 0);
        due("32: none fits, bad", Cards.none().would(0, 0, 0, 10), -2);
        due("32: no lines", Cards.blank().would(0, 0, 0, 0), -2);
        int[] fit = {36, 0, 12, 36, 36, 24};
        int[] parts = {63, 9, 8, 63, 0, 8};
        for (int kind = 0; kind < 6; kind++) {
            int k = kind;
            Edge.leaves("32: kind " + kind, Cards::half, y -> y.would(k, 1, parts[k], 0), fit[kind]);
        }
    }

    private static void clash() {
        due("33: any fits", Cards.half().clash(), 0);
        due("33: no facts", Cards.blank().clash(), 0);
        due("33: one of two", Cards.none().clash(), 12);
        CardNobodyReads x = Cards.none();
        x.know(1, 1, 32, 0);
        due("33: none alone", x.clash(), 0);
        CardNobodyReads law = Cards.blank();
        law.line(1, 1);
        law.know(1, 0, 1, 0);
        law.know(1, 0, 2, 0);
        due("33: both", law.clash(), 3);
        Cards.text(law, "may parts=4;likes 1;learns 1;");
        law.force(1);
        due("33: by the law none alone", law.clash(), 0);
        Cards.text(law, "may parts=2;likes 1;learns 1;");
        law.force(2);
        due("33: by the law the first", law.clash(), 1);
        CardNobodyReads twelve = Cards.blank();
        twelve.line(1, 1);
        for (int f = 0; f < 12; f++) {
            twelve.know(1, 0, f == 11 ? 2 : 1, 0);
        }
        due("33: the last of twelve", twelve.clash(), 1 << 11);
        due("34: the others", twelve.idle(), (1 << 11) - 1);
        CardNobodyReads first = Cards.blank();
        first.line(1, 1);
        for (int f = 0; f < 12; f++) {
            first.know(1, 0, f == 0 ? 2 : 1, 0);
        }
        due("33: the first of twelve", first.clash(), 1);
    }

    private static void idle() {
        due("34: no facts", Cards.blank().idle(), 0);
        due("34: each tells", Cards.half().idle(), 0);
        due("34: none fits", Cards.none().idle(), 3);
        CardNobodyReads x = Cards.none();
        x.know(1, 1, 32, 0);
        due("34: none fits, whichever goes", x.idle(), 31);
        CardNobodyReads y = Cards.half();
        y.know(0, 0, 63, 9);
        due("34: who says nothing", y.idle(), 4);
        y.know(2, 0, 3, 0);
        due("34: of two like ones each", y.idle(), 13);
        CardNobodyReads full = Cards.blank();
        full.line(1, 1);
        for (int f = 0; f < 12; f++) {
            full.know(0, 0, 0, 0);
        }
        due("34: all twelve", full.idle(), 4095);
        full.forget();
        full.know(2, 0, 1, 0);
        due("34: all but the last", full.idle(), 2047);
    }

    // ---- 35 and 38

    private static void bills(CardNobodyReads x, int n, int sum, int ways, int all, int any) {
        String told = "35: " + n + " of " + sum;
        due(told, x.bill(n, sum, 0), ways);
        due(told + ", in all", x.bill(n, sum, 1), all);
        due(told + ", in any", x.bill(n, sum, 2), any);
    }

    private static void bill() {
        CardNobodyReads x = Cards.one(0, 1, 2, 3, 4, 5);
        bills(x, 0, 0, 1, 0, 0);
        bills(x, 0, 1, 0, 0, 0);
        bills(x, 1, 0, 0, 0, 0);
        bills(x, 1, 6, 1, 32, 32);
        bills(x, 1, 7, 0, 0, 0);
        bills(x, 2, 3, 1, 3, 3);
        bills(x, 2, 5, 2, 0, 15);
        bills(x, 3, 8, 2, 1, 31);
        bills(x, 6, 21, 1, 63, 63);
        bills(x, 6, 22, 0, 0, 0);
        bills(x, 7, 21, 0, 0, 0);
        bills(x, 5, 20, 1, 62, 62);
        bills(Cards.blank(), 0, 0, 1, 0, 0);
        bills(Cards.blank(), 1, 0, 0, 0, 0);
        bills(Cards.blank(), 10, 999, 0, 0, 0);
        bills(Cards.none(), 0, 0, 1, 0, 0);
        bills(Cards.none(), 4, 101, 1, 15, 15);
        CardNobodyReads ten = Cards.full();
        // prices 99 down to 90
        bills(ten, 10, 945, 1, 1023, 1023);
        bills(ten, 9, 855, 1, 511, 511);
        bills(ten, 9, 846, 1, 1022, 1022);
        bills(ten, 1, 99, 1, 1, 1);
        bills(ten, 1, 90, 1, 512, 512);
        bills(ten, 2, 189, 5, 0, 1023);
        for (int l = 0; l < 10; l++) {
            ten.set(l, 99);
        }
        bills(ten, 10, 990, 1, 1023, 1023);
        bills(ten, 10, 999, 0, 0, 0);
    }

    private static void billBounds() {
        for (CardNobodyReads x : new CardNobodyReads[] {Cards.blank(), Cards.half(), Cards.full()}) {
            for (int bad : new int[] {-1, 11, Cards.LEAST, Cards.MOST}) {
                due("35: n " + bad, x.bill(bad, 0, 0), -2);
            }
            for (int bad : new int[] {-1, 1000, Cards.LEAST, Cards.MOST}) {
                due("35: sum " + bad, x.bill(0, bad, 0), -2);
            }
            for (int bad : new int[] {-1, 3, Cards.LEAST, Cards.MOST}) {
                due("35: what " + bad, x.bill(0, 0, bad), -2);
            }
            due("35: the most of all", x.bill(10, 999, 2), 0);
        }
    }

    private static void laws() {
        due("38: at first", Cards.blank().laws(), 1);
        due("38: none fits by any", Cards.none().laws(), 0);
        due("38: two", Cards.half().laws(), 3);
        due("38: six", Cards.full().laws(), 63);
        CardNobodyReads x = Cards.blank();
        x.line(1, 1);
        for (int t = 1; t < 6; t++) {
            Cards.text(x, "may " + (t == 5 ? "parts=32" : "0") + ";likes 1;learns 1;");
        }
        due("38: the first and the last", x.laws(), 33);
        x.know(5, 0, 32, 0);
        due("38: the first", x.laws(), 1);
        x.force(5);
        due("38: whatever the law", x.laws(), 1);
        due("16: none by it", x.sets(), 0);
        due("38: none changes", x.count(5), 5);
        CardNobodyReads noLines = Cards.blank();
        Cards.text(noLines, "may 0;likes 1;learns 1;");
        due("38: no lines", noLines.laws(), 3);
        noLines.force(1);
        due("16: no lines", noLines.sets(), 720);
        CardNobodyReads told = Cards.blank();
        told.line(1, 1);
        Cards.text(told, "may guest or left;likes 1;learns 1;");
        Cards.text(told, "may not(guest or left);likes 1;learns 1;");
        due("38: guest and left are 0", told.laws(), 5);
        told.force(1);
        due("16: guest and left are 0", told.sets(), 0);
        due("12: but as told", told.asks(0, 0, 1, 1, 0) * 10 + told.asks(0, 0, 1, 0, 720), 11);
    }

    // ---- 39 and 40

    /** The part of sign 0 among all: number LOT modulo 720, of 120 each. */
    private static int ofAll(int seed) {
        return (int) ((seed + 1L) * 48271L % 2147483647L % 720 / 120);
    }

    private static void drawn() {
        for (CardNobodyReads x : new CardNobodyReads[] {Cards.blank(), Cards.half(), Cards.none()}) {
            for (int bad : new int[] {-1, 100000, Cards.LEAST, Cards.MOST}) {
                due("39: seed " + bad, x.drawn(bad, 0), -2);
            }
            for (int bad : NO_SIGNS) {
                due("39: sign " + bad, x.drawn(0, bad), -2);
            }
        }
        for (int sign = 0; sign < 6; sign++) {
            due("39: none fits", Cards.none().drawn(99999, sign), -1);
        }
        // 44488 times 48271 is the first to pass 2147483647; 99999 and 1 times it passes 32 bits
        for (int seed : new int[] {0, 1, 44485, 44486, 44487, 44488, 88974, 88975, 88976, 99998, 99999}) {
            due("39: seed " + seed, Cards.blank().drawn(seed, 0), ofAll(seed));
        }
        due("39: seed 0 by hand", Cards.blank().drawn(0, 0), 0);
        due("39: seed 99999 by hand", Cards.blank().drawn(99999, 0), 1);
    }

    private static void chance() {
        CardNobodyReads x = Cards.blank();
        x.line(1, 1);
        x.guest(2);
        IntUnaryOperator shunned = seed -> ofAll(seed) == 1 ? 1 : 0;
        for (int seed : new int[] {0, 99970, 99999}) {
            int many = 0;
            for (int seeds = 1; seeds <= 30; seeds++) {
                many += shunned.applyAsInt(seed + seeds - 1);
                int d = divisor(many, seeds);
                fraction("40: " + seeds + " from " + seed, x.chance(0, 0, seed, seeds, 0),
                        x.chance(0, 0, seed, seeds, 1), many / d, seeds / d);
            }
        }
        CardNobodyReads half = Cards.half();
        for (int bad : new int[] {-1, 3, 4, Cards.LEAST, Cards.MOST}) {
            due("40: guest " + bad, half.chance(bad, 0, 0, 1, 0), Cards.NO);
        }
        for (int bad : NO_LINES) {
            due("40: line " + bad, half.chance(0, bad, 0, 1, 0), Cards.NO);
        }
        due("40: line 4 of 4", half.chance(0, 4, 0, 1, 0), Cards.NO);
        for (int bad : new int[] {-1, 100000, Cards.LEAST, Cards.MOST}) {
            due("40: seed " + bad, half.chance(0, 0, bad, 1, 0), Cards.NO);
        }
        for (int bad : new int[] {0, -1, 31, Cards.LEAST, Cards.MOST}) {
            due("40: seeds " + bad, half.chance(0, 0, 0, bad, 0), Cards.NO);
        }
        for (int bad : NO_WHATS) {
            due("40: p " + bad, half.chance(0, 0, 0, 1, bad), Cards.NO);
        }
        due("40: none fits", Cards.none().chance(0, 0, 0, 1, 0), Cards.NO);
        due("40: none fits", Cards.none().chance(2, 3, 99999, 30, 1), Cards.NO);
        fraction("40: never", half.chance(0, 0, 7, 30, 0), half.chance(0, 0, 7, 30, 1), 0, 1);
        fraction("40: ever", half.chance(2, 3, 7, 30, 0), half.chance(2, 3, 7, 30, 1), 1, 1);
    }

    private static int divisor(int a, int b) {
        return b == 0 ? Math.max(1, a) : divisor(b, a % b);
    }

    // ---- what is asked changes nothing

    private static void whatIsAsked() {
        Edge.changesNothing("16: sets", CardNobodyReads::sets);
        Edge.changesNothing("17: first", x -> x.first(2));
        Edge.changesNothing("18: means", x -> x.means(2, 3));
        Edge.changesNothing("19: sure", x -> x.sure(2));
        Edge.changesNothing("20: doubt", x -> x.doubt(2));
        Edge.changesNothing("20: doubt of all", x -> x.doubt(-1));
        Edge.changesNothing("21: odds", x -> x.odds(2, 3, 0));
        Edge.changesNothing("22: has", x -> x.has(2, 9, 1));
        Edge.changesNothing("23: parts of a line", x -> x.partsOfLine(2, 1));
        Edge.changesNothing("24: safe", x -> x.safe(0));
        Edge.changesNothing("25: risk", x -> x.risk(1, 2, 0));
        Edge.changesNothing("26: order", x -> x.order(1));
        Edge.changesNothing("27: ordered", x -> x.ordered(0));
        Edge.changesNothing("28: middle", x -> x.middle(6));
        Edge.changesNothing("29: taste", x -> x.taste(0));
        Edge.changesNothing("30: two", x -> x.two(0));
        Edge.changesNothing("31: ask", x -> x.ask(0));
        Edge.changesNothing("32: would", x -> x.would(1, 1, 8, 0));
        Edge.changesNothing("33: clash", CardNobodyReads::clash);
        Edge.changesNothing("34: idle", CardNobodyReads::idle);
        Edge.changesNothing("35: bill", x -> x.bill(2, 31, 1));
        Edge.changesNothing("36: match", x -> x.match(0));
        Edge.changesNothing("38: laws", CardNobodyReads::laws);
        Edge.changesNothing("39: drawn", x -> x.drawn(99999, 3));
        Edge.changesNothing("40: chance", x -> x.chance(0, 3, 99999, 30, 0));
        Edge.changesNothing("47: taken", x -> x.taken(10, 1));
    }
}
