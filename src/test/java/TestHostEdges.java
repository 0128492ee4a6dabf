/** The edges that promises 36, 37 and 41 to 47 name: of images and of the host. */
public final class TestHostEdges {
    private static final int[] NO_SHEETS = {-1, 4, Cards.LEAST, Cards.MOST};
    private static final int[] NO_SORTS = {-1, 3, Cards.LEAST, Cards.MOST};

    private TestHostEdges() {
    }

    private static void due(String call, long got, long want) {
        Check.due(call, got, want);
    }

    public static void main(String[] args) {
        images();
        imagesOfNothing();
        whatImagesKeep();
        sheets();
        sheetsBecome();
        cells();
        lowestBits();
        match();
        film();
        copyRefused();
        copied();
        overlapping();
        linesByRefused();
        linesCome();
        linesOutside();
        linesLeftOut();
        taken();
        Check.end();
    }

    /** What a sheet holds: prices 1 .. 99 and other numbers, which are told as 0. */
    private static void holds(String told, CardNobodyReads x, int s, int sort, int... want) {
        x.image();
        int scratch = (s + 1) % 4;
        for (int i = 0; i < want.length; i++) {
            x.back();
            x.sheet(scratch, sort, 2);
            x.cell(scratch, 0, 1);
            due(told + " is there at " + i, x.copy(s, i, scratch, 1, 1), 1);
            int l = x.count(0);
            x.linesBy(scratch, sort, 0, 1);
            due(told + " at " + i, Math.max(0, x.lineTold(l, 1)), want[i]);
        }
        x.back();
        due(told + " has no more", x.copy(s, want.length, s, 0, 1), -12);
    }

    // ---- 41 and 42

    private static void images() {
        Edge.leaves("42: no image", Cards::blankWithLines, CardNobodyReads::back, -3);
        CardNobodyReads x = Cards.half();
        due("42: three lines", x.back(), 3);
        int[] counts = {3, 2, 1, 100, 2, 0, 14};
        for (int what = 0; what < 7; what++) {
            due("42: count " + what, x.count(what), counts[what]);
        }
        due("42: prices", x.lineTold(0, 1) * 10000 + x.lineTold(1, 1) * 100 + x.lineTold(2, 1), 102030);
        due("42: line 3 is none", x.lineTold(3, 0), -5);
        due("42: nothing at 3", x.taken(3, 6), -11);
        due("42: guest 2 is none", x.guestTold(2), -5);
        due("42: guests 0 and 1", x.guestTold(0) * 10 + x.guestTold(1), 41);
        due("42: fact 1 is none", x.factTold(1, 0), -5);
        due("42: fact 0", x.factTold(0, 2), 3);
        due("42: what fits", x.sets(), 48);
        due("42: the law", x.asks(1, 0, 0, 0, 0), 40);
        due("42: sheets stay", x.linesBy(2, 2, 2, 1), 1);
        due("42: a line that comes then", x.lineTold(3, 0) * 100 + x.lineTold(3, 1), 145);
        due("42: texts stay", x.force(1), 0);
        due("42: the image stays", x.back(), 3);
        due("42: and again", x.back() * 10 + x.count(5), 30);
        due("42: a guest that comes then", x.guest(9) * 100 + x.guestTold(2), 209);
        due("42: a fact that comes then", x.know(5, 1, 4, 3), 1);
        due("42: its kind", x.factTold(1, 0) * 10 + x.factTold(1, 3), 53);
    }

    private static void imagesOfNothing() {
        CardNobodyReads x = Cards.blank();
        due("41: no lines", x.image(), 0);
        due("42: no lines", x.back(), 0);
        x.line(1, 1);
        x.guest(1);
        x.know(0, 0, 0, 0);
        x.pays(7);
        due("42: none again", x.back(), 0);
        int[] counts = {0, 0, 0, 100, 1, 0, 0};
        for (int what = 0; what < 7; what++) {
            due("42: count " + what, x.count(what), counts[what]);
        }
        x.line(1, 1);
        x.know(0, 0, 0, 0);
        x.forget();
        due("14: an image of no facts stays", x.back(), 0);
        due("14: no facts, an image of none", x.forget(), -3);
        due("42: it stays", x.back(), 0);
        CardNobodyReads full = Cards.full();
        due("41: ten lines", full.image(), 10);
        full.set(9, 1);
        due("42: ten lines", full.back(), 10);
        due("42: the last one's price", full.lineTold(9, 1), 90);
        due("14: the twelfth fact is in it", full.forget(), 11);
        due("42: no image", full.back(), -3);
    }

    private static void whatImagesKeep() {
        CardNobodyReads x = Cards.half();
        due("41: another image", x.image(), 4);
        x.pays(1);
        x.set(3, 1);
        x.force(0);
        x.line(1, 1);
        due("42: the later one", x.back(), 4);
        due("42: its coin", x.count(3), 90);
        due("42: its price", x.lineTold(3, 1), 40);
        due("42: its law", x.count(5), 1);
        due("42: its guests", x.count(1), 3);
        due("42: its facts", x.count(2), 2);
        due("42: what fits", x.sets(), 36);
        x.image();
        x.know(1, 1, 8, 0);
        due("14: a fact since", x.forget(), 2);
        due("42: the image is there", x.back(), 4);
        due("14: a fact of it", x.forget(), 1);
        Edge.leaves("42: no image, no change", TestHostEdges::imageGone, CardNobodyReads::back, -3);
        CardNobodyReads later = Cards.half();
        Cards.text(later, "may 0;likes 1;learns 1;");
        later.back();
        due("42: a text that came since stays", later.count(4), 2);
        Edge.leaves("41: an image changes nothing else", Cards::half, y -> y.image() - 4 + y.back(), 4,
                TestHostEdges::imagedAnew);
    }

    private static CardNobodyReads imageGone() {
        CardNobodyReads x = Cards.half();
        x.forget();
        x.forget();
        return x;
    }

    private static CardNobodyReads imagedAnew() {
        CardNobodyReads x = Cards.half();
        x.image();
        return x;
    }

    // ---- 43 and 44

    private static void sheets() {
        for (int s : NO_SHEETS) {
            Edge.leaves("43: sheet " + s, Cards::half, x -> x.sheet(s, 0, 1), -2);
            Edge.leaves("43: sheet " + s + " missing", Cards::half, x -> x.sheet(s, -1, 1), -2);
            Edge.leaves("43: sheet " + s + " ahead of -14", Cards::half, x -> x.sheet(s, 0, -1), -2);
        }
        for (int sort : new int[] {-2, 3, Cards.LEAST, Cards.MOST}) {
            Edge.leaves("43: sort " + sort, Cards::half, x -> x.sheet(0, sort, 1), -2);
            Edge.leaves("43: sort " + sort + " ahead of -14", Cards::half, x -> x.sheet(3, sort, -1), -2);
        }
        for (int sort = 0; sort < 3; sort++) {
            int like = sort;
            for (int s = 0; s < 4; s++) {
                int one = s;
                Edge.leaves("43: n 41", Cards::half, x -> x.sheet(one, like, 41), -2);
                Edge.leaves("43: n -1", Cards::half, x -> x.sheet(one, like, -1), -14);
            }
            Edge.leaves("43: the most", Cards::half, x -> x.sheet(0, like, Cards.MOST), -2);
            Edge.leaves("43: the least", Cards::half, x -> x.sheet(0, like, Cards.LEAST), -14);
            for (int n : new int[] {0, 1, 39, 40}) {
                CardNobodyReads x = Cards.half();
                due("43: n " + n, x.sheet(3, like, n), 1);
                due("43: its last place", x.cell(3, n - 1, 1), n == 0 ? -12 : 1);
                due("43: behind it", x.cell(3, n, 1), -12);
                due("43: of its sort", x.linesBy(3, like, 0, 0), 0);
            }
        }
        for (int n : new int[] {Cards.LEAST, -1, 0, 1, 40, 41, Cards.MOST}) {
            Edge.leaves("43: missing, n " + n, Cards::half, x -> x.sheet(3, -1, n), 1);
            CardNobodyReads x = Cards.half();
            due("43: missing, n " + n, x.sheet(0, -1, n), 1);
            due("44: nothing there", x.cell(0, 0, 1), -11);
            due("36: nothing there", x.match(0), -11);
            due("45: nothing there", x.copy(0, 0, 0, 0, 0), -11);
            due("46: nothing there", x.linesBy(0, 0, 0, 0), -11);
            due("43: the next one is there", x.cell(1, 0, 1), 1);
        }
    }

    private static void sheetsBecome() {
        CardNobodyReads x = Cards.half();
        due("43: of the same sort and size", x.sheet(0, 0, 4), 1);
        holds("43: all 0", x, 0, 0, 0, 0, 0, 0);
        holds("43: the others stay", Cards.half(), 2, 2, 18, 44, 1, 45);
        CardNobodyReads y = Cards.blank();
        Cards.fill(y, 3, 2, 1, 2, 3, 4, 5);
        y.sheet(3, 2, 2);
        holds("43: smaller", y, 3, 2, 0, 0);
        Cards.fill(y, 3, 2, 1, 2, 3, 4, 5);
        y.sheet(3, -1, 0);
        y.sheet(3, 2, 5);
        holds("43: missing and again", y, 3, 2, 0, 0, 0, 0, 0);
        int[] forty = new int[40];
        for (int i = 0; i < 40; i++) {
            forty[i] = 1 + i;
        }
        CardNobodyReads z = Cards.blank();
        Cards.fill(z, 1, 1, forty);
        z.sheet(2, 1, 40);
        due("43: 40 of one do not reach the next", z.linesBy(2, 1, 0, 1), 0);
        due("45: all forty", z.copy(1, 0, 2, 0, 40), 40);
        due("46: the last two of forty", z.linesBy(2, 1, 0, 1) * 10 + z.linesBy(2, 1, 35, 1), 11);
        due("46: as they are", z.lineTold(1, 0) * 100 + z.lineTold(1, 1), 3637);
        z.sheet(2, 1, 40);
        due("43: the last of forty is 0", z.linesBy(2, 1, 35, 1), 0);
    }

    private static void cells() {
        for (int s : NO_SHEETS) {
            Edge.leaves("44: sheet " + s, Cards::half, x -> x.cell(s, 0, 1), -2);
            Edge.leaves("44: sheet " + s + " ahead of the place", Cards::half, x -> x.cell(s, -1, 1), -2);
        }
        for (int i : new int[] {-1, 0, 1, 40, Cards.LEAST, Cards.MOST}) {
            Edge.leaves("44: nothing there, place " + i, Cards::half, x -> x.cell(3, i, 1), -11);
        }
        int[] sizes = {4, 2, 4};
        for (int s = 0; s < 3; s++) {
            int one = s;
            int size = sizes[s];
            for (int i : new int[] {-1, size, size + 1, 40, Cards.LEAST, Cards.MOST}) {
                Edge.leaves("44: place " + i + " of sheet " + s, Cards::half, x -> x.cell(one, i, 1), -12);
            }
            CardNobodyReads x = Cards.half();
            due("44: the first place", x.cell(s, 0, 8), 1);
            due("44: the last place", x.cell(s, size - 1, 77), 1);
            due("46: they are there", x.linesBy(s, s, 0, 1), 1);
            due("46: the first", x.lineTold(4, 0), 8);
            due("46: the last", x.linesBy(s, s, size - 2, 1) * 100 + x.lineTold(5, 1), 177);
        }
        CardNobodyReads x = Cards.blank();
        x.sheet(0, 0, 0);
        due("44: no place", x.cell(0, 0, 1), -12);
        due("44: no place", x.cell(0, -1, 1), -12);
    }

    private static void lowestBits() {
        int[] values = {7, 127, 128, 135, 255, 256, 263, 32767, 32768, 32775, 65535, 65536, 65543, -1, -121, -249,
            -32768, -32761, -65529, -65536, Cards.LEAST + 7, Cards.LEAST, Cards.MOST, Cards.MOST - 120};
        for (int v : values) {
            for (int sort = 0; sort < 3; sort++) {
                int cut = sort == 0 ? (byte) v : sort == 1 ? (short) v : v;
                CardNobodyReads x = Cards.blank();
                Cards.fill(x, 0, sort, 1, v);
                boolean comes = cut >= 1 && cut <= 99;
                due("44: " + v + " of sort " + sort, x.linesBy(0, sort, 0, 1), comes ? 1 : 0);
                due("44: " + v + " of sort " + sort + " told", x.lineTold(0, 1), comes ? cut : -5);
            }
        }
    }

    // ---- 36 and 37

    private static void match() {
        for (int s : NO_SHEETS) {
            due("36: sheet " + s, Cards.half().match(s), -2);
            due("36: sheet " + s + ", none fits", Cards.none().match(s), -2);
            due("36: sheet " + s + ", no lines", Cards.blank().match(s), -2);
        }
        due("36: nothing there", Cards.half().match(3), -11);
        due("36: nothing there, none fits", Cards.none().match(3), -11);
        due("36: nothing there, no lines", Cards.blank().match(0), -11);
        due("36: four numbers, none fits", Cards.none().match(0), 0);
        due("36: two numbers, none fits", Cards.none().match(1), -2);
        for (int size : new int[] {0, 3, 5, 40}) {
            CardNobodyReads x = Cards.half();
            x.sheet(3, 0, size);
            due("36: of size " + size, x.match(3), -2);
        }
        for (int sort = 0; sort < 3; sort++) {
            CardNobodyReads x = Cards.half();
            Cards.fill(x, 3, sort, 3, 8, 9, 4);
            // signs 0, 2, 3 and so 1 are told, signs 4 and 5 are free
            due("36: of sort " + sort, x.match(3), 2);
            for (int l = 0; l < 4; l++) {
                Cards.fill(x, 3, sort, 3, 8, 9, 4);
                x.cell(3, l, 2);
                due("36: but for line " + l, x.match(3), 0);
            }
        }
        CardNobodyReads full = Cards.full();
        Cards.fill(full, 3, 1, 1, 2, 4, 8, 16, 32, 7, 7, 7, 7);
        due("36: ten lines", full.match(3), 1);
        full.cell(3, 9, 8);
        due("36: but for the last", full.match(3), 0);
        full.sheet(3, 1, 11);
        due("36: eleven numbers", full.match(3), -2);
        CardNobodyReads noLines = Cards.blank();
        noLines.sheet(0, 0, 0);
        due("36: no lines, no numbers", noLines.match(0), 720);
        noLines.sheet(0, 0, 1);
        due("36: no lines, a number", noLines.match(0), -2);
    }

    private static void film() {
        for (int s : NO_SHEETS) {
            Edge.leaves("37: sheet " + s, Cards::half, x -> x.film(s), -2);
            Edge.leaves("37: sheet " + s + " ahead of none", Cards::none, x -> x.film(s), -2);
        }
        for (int s = 0; s < 4; s++) {
            int one = s;
            Edge.leaves("37: none fits, sheet " + s, Cards::none, x -> x.film(one), -3);
            CardNobodyReads x = Cards.half();
            due("37: sheet " + s, x.film(s), 4);
            // the first that fits: parts 0, 1, 3, 2, 4, 5
            holds("37: sheet " + s, x, s, 2, 3, 8, 9, 4);
            Edge.leaves("37: as by hand, sheet " + s, Cards::half, y -> y.film(one), 4, () -> {
                CardNobodyReads y = Cards.half();
                Cards.fill(y, one, 2, 3, 8, 9, 4);
                return y;
            });
        }
        due("37: of nothing", Cards.blank().film(0), 0);
        CardNobodyReads x = Cards.blank();
        x.film(0);
        due("37: is there", x.cell(0, 0, 0), -12);
        due("36: and matches", x.match(0), 720);
        CardNobodyReads full = Cards.full();
        due("37: ten lines", full.film(3), 10);
        due("36: it matches", full.match(3), 1);
        due("37: ten numbers", full.cell(3, 9, 7) * 100 + full.cell(3, 10, 7), 88);
    }

    // ---- 45

    private static void copyRefused() {
        for (int s : NO_SHEETS) {
            Edge.leaves("45: sheet " + s, Cards::half, x -> x.copy(s, 0, 0, 0, 1), -2);
            Edge.leaves("45: to sheet " + s, Cards::half, x -> x.copy(0, 0, s, 0, 1), -2);
            Edge.leaves("45: sheet " + s + " ahead of nothing", Cards::half, x -> x.copy(s, 0, 3, 0, 1), -2);
            Edge.leaves("45: to sheet " + s + " ahead of nothing", Cards::half, x -> x.copy(3, 0, s, 0, 1), -2);
            Edge.leaves("45: sheet " + s + " ahead of places", Cards::half, x -> x.copy(0, -1, s, -1, -1), -2);
        }
        for (int n : new int[] {-1, 0, 1, 41}) {
            Edge.leaves("45: from nothing", Cards::half, x -> x.copy(3, 0, 0, 0, n), -11);
            Edge.leaves("45: to nothing", Cards::half, x -> x.copy(0, 0, 3, 0, n), -11);
            Edge.leaves("45: nothing to itself", Cards::half, x -> x.copy(3, 0, 3, 0, n), -11);
            Edge.leaves("45: unlike sorts", Cards::half, x -> x.copy(0, 0, 1, 0, n), -13);
            Edge.leaves("45: unlike sorts", Cards::half, x -> x.copy(1, 0, 2, 0, n), -13);
            Edge.leaves("45: unlike sorts", Cards::half, x -> x.copy(2, -1, 0, 50, n), -13);
        }
        int[][] outside = {{0, 0, -1}, {0, 0, 5}, {1, 0, 4}, {0, 1, 4}, {4, 0, 1}, {0, 4, 1}, {5, 0, 0}, {0, 5, 0},
            {-1, 0, 0}, {0, -1, 0}, {-1, 0, 1}, {0, -1, 1}, {-1, 0, 2}, {0, 0, Cards.LEAST}, {0, 0, Cards.MOST},
            {1, 1, Cards.MOST}, {Cards.MOST, 0, 1}, {0, Cards.MOST, 1}, {Cards.LEAST, 0, 1}, {0, Cards.LEAST, 1},
            {Cards.MOST, 0, Cards.MOST}, {Cards.LEAST, Cards.LEAST, Cards.LEAST}, {Cards.MOST, Cards.MOST, 2},
            {2, 2, Cards.LEAST}, {4, 4, -1}, {5, 5, -1}};
        for (int[] o : outside) {
            String told = "45: " + o[0] + " to " + o[1] + ", n " + o[2];
            Edge.leaves(told, Cards::half, x -> x.copy(0, o[0], 0, o[1], o[2]), -12);
            Edge.leaves(told, Cards::half, x -> x.copy(2, o[0], 2, o[1], o[2]), -12);
        }
        Edge.leaves("45: none, behind the last", Cards::half, x -> x.copy(0, 4, 0, 4, 0), 0);
        Edge.leaves("45: none, between", Cards::half, x -> x.copy(0, 1, 0, 4, 0), 0);
        Edge.leaves("45: all to where it is", Cards::half, x -> x.copy(0, 0, 0, 0, 4), 4);
    }

    private static void copied() {
        CardNobodyReads x = Cards.blank();
        for (int sort = 0; sort < 3; sort++) {
            Cards.fill(x, 0, sort, 1, 2, 3, 4, 5);
            Cards.fill(x, 2, sort, 11, 12, 13);
            due("45: some", x.copy(0, 1, 2, 1, 2), 2);
            holds("45: they came", x, 2, sort, 11, 2, 3);
            Cards.fill(x, 2, sort, 11, 12, 13);
            due("45: the last ones to the first", x.copy(0, 2, 2, 0, 3), 3);
            holds("45: they came", x, 2, sort, 3, 4, 5);
            holds("45: they stayed", x, 0, sort, 1, 2, 3, 4, 5);
            Cards.fill(x, 2, sort, 11, 12, 13);
            due("45: one", x.copy(0, 4, 2, 2, 1), 1);
            holds("45: it came", x, 2, sort, 11, 12, 5);
            due("45: a size too many for the other", x.copy(0, 0, 2, 0, 4), -12);
            due("45: the other way", x.copy(2, 0, 0, 0, 4), -12);
            holds("45: nothing came", x, 2, sort, 11, 12, 5);
        }
    }

    private static void overlapping() {
        int[][] moves = {{0, 1, 4}, {1, 0, 4}, {0, 2, 3}, {2, 0, 3}, {0, 4, 1}, {4, 0, 1}, {1, 2, 3}, {0, 0, 5}};
        int[][] want = {{1, 1, 2, 3, 4}, {2, 3, 4, 5, 5}, {1, 2, 1, 2, 3}, {3, 4, 5, 4, 5}, {1, 2, 3, 4, 1},
            {5, 2, 3, 4, 5}, {1, 2, 2, 3, 4}, {1, 2, 3, 4, 5}};
        for (int i = 0; i < moves.length; i++) {
            for (int sort = 0; sort < 3; sort++) {
                CardNobodyReads x = Cards.blank();
                Cards.fill(x, 1, sort, 1, 2, 3, 4, 5);
                due("45: on itself, " + i, x.copy(1, moves[i][0], 1, moves[i][1], moves[i][2]), moves[i][2]);
                holds("45: as they were, " + i, x, 1, sort, want[i]);
            }
        }
    }

    // ---- 46

    private static void linesByRefused() {
        for (int s : NO_SHEETS) {
            Edge.leaves("46: sheet " + s, Cards::half, x -> x.linesBy(s, 0, 0, 1), -2);
            Edge.leaves("46: sheet " + s + " ahead of the place", Cards::half, x -> x.linesBy(s, 0, -1, 1), -2);
        }
        for (int sort : NO_SORTS) {
            Edge.leaves("46: sort " + sort, Cards::half, x -> x.linesBy(0, sort, 0, 1), -2);
            Edge.leaves("46: sort " + sort + " of nothing", Cards::half, x -> x.linesBy(3, sort, 0, 1), -2);
        }
        for (int n : new int[] {-1, 11, Cards.LEAST, Cards.MOST}) {
            Edge.leaves("46: n " + n, Cards::half, x -> x.linesBy(0, 0, 0, n), -2);
            Edge.leaves("46: n " + n + " of nothing", Cards::half, x -> x.linesBy(3, 0, 0, n), -2);
            Edge.leaves("46: n " + n + " of another sort", Cards::half, x -> x.linesBy(0, 1, 0, n), -2);
        }
        for (int at : new int[] {-1, 0, 99, Cards.LEAST, Cards.MOST}) {
            for (int n : new int[] {0, 1, 10}) {
                Edge.leaves("46: nothing there", Cards::half, x -> x.linesBy(3, 0, at, n), -11);
                Edge.leaves("46: another sort", Cards::half, x -> x.linesBy(0, 1, at, n), -13);
                Edge.leaves("46: another sort", Cards::half, x -> x.linesBy(1, 2, at, n), -13);
                Edge.leaves("46: another sort", Cards::half, x -> x.linesBy(2, 0, at, n), -13);
            }
            if (at != 0) {
                Edge.leaves("46: outside at " + at, Cards::half, x -> x.linesBy(0, 0, at, 1), -12);
                Edge.leaves("46: outside at " + at, Cards::half, x -> x.linesBy(2, 2, at, 10), -12);
            }
        }
        for (int at : new int[] {3, 4, -2, -3, Cards.MOST - 1, Cards.LEAST + 1}) {
            Edge.leaves("46: outside at " + at, Cards::half, x -> x.linesBy(0, 0, at, 1), -12);
            Edge.leaves("46: outside at " + at, Cards::half, x -> x.linesBy(0, 0, at, 2), -12);
        }
        Edge.leaves("46: none of them", Cards::half, x -> x.linesBy(0, 0, 0, 0), 0);
    }

    private static void linesCome() {
        CardNobodyReads x = Cards.half();
        due("46: both", x.linesBy(0, 0, 0, 2), 2);
        due("46: the first", x.lineTold(4, 0) * 100 + x.lineTold(4, 1), 941);
        due("46: the second", x.lineTold(5, 0) * 100 + x.lineTold(5, 1), 3342);
        due("46: from the second on", x.linesBy(0, 0, 2, 1), 1);
        due("46: it", x.lineTold(6, 0) * 100 + x.lineTold(6, 1), 3342);
        due("46: between them", x.linesBy(0, 0, 1, 1), 1);
        due("46: it", x.lineTold(7, 0) * 100 + x.lineTold(7, 1), 4133);
        due("46: what they have", x.partsOfLine(5, 1) + x.would(2, 4, 4, 0), 63 + 12);
        CardNobodyReads ten = Cards.blank();
        int[] row = new int[20];
        for (int l = 0; l < 10; l++) {
            row[2 * l] = 1 << l % 6;
            row[2 * l + 1] = 99 - l;
        }
        Cards.fill(ten, 3, 0, row);
        due("46: ten", ten.linesBy(3, 0, 0, 10), 10);
        for (int l = 0; l < 10; l++) {
            due("46: signs of " + l, ten.lineTold(l, 0), 1 << l % 6);
            due("46: price of " + l, ten.lineTold(l, 1), 99 - l);
        }
    }

    private static void linesOutside() {
        CardNobodyReads x = Cards.half();
        due("46: three of two", x.linesBy(0, 0, 0, 3), -12);
        due("46: what stood ahead came", x.count(0), 6);
        due("46: as it stood", x.lineTold(5, 0) * 100 + x.lineTold(5, 1), 3342);
        due("46: two of one and a half", x.linesBy(0, 0, 1, 2), -12);
        due("46: one came, no half", x.count(0), 7);
        due("46: ten of one", x.linesBy(1, 1, 0, 10), -12);
        due("46: one came", x.count(0), 8);
        due("46: it tells on what fits", x.would(2, 7, 17, 0), 4);
    }

    private static void linesLeftOut() {
        CardNobodyReads x = Cards.blank();
        Cards.fill(x, 0, 2, 0, 5, 15, 5, 64, 5, 1, 0, 1, 100, 1, 99, -1, 5, 56, 1, Cards.LEAST, 1, 1, Cards.MOST);
        due("46: two of ten", x.linesBy(0, 2, 0, 10), 2);
        due("46: the one", x.lineTold(0, 0) * 100 + x.lineTold(0, 1), 199);
        due("46: the other", x.lineTold(1, 0) * 100 + x.lineTold(1, 1), 5601);
        due("46: none other", x.count(0), 2);
        due("46: left out, and outside", x.linesBy(0, 2, 18, 2), -12);
        due("46: none came", x.count(0), 2);
        for (int l = 2; l < 9; l++) {
            x.line(1, 1);
        }
        due("46: room for one of two", x.linesBy(0, 2, 10, 3), 1);
        due("46: it came", x.count(0), 10);
        due("46: room for none", x.linesBy(0, 2, 10, 3), 0);
        due("46: room for none, and outside", x.linesBy(0, 2, 14, 4), -12);
        due("46: ten", x.count(0), 10);
        due("46: room for none, none asked", x.linesBy(0, 2, 0, 0), 0);
        Edge.leaves("46: full", Cards::full, y -> y.linesBy(0, 0, 0, 10), 0);
        Edge.leaves("46: full, and outside", Cards::full, y -> y.linesBy(0, 0, 38, 2), -12);
    }

    // ---- 47

    private static void taken() {
        for (CardNobodyReads x : new CardNobodyReads[] {Cards.blank(), Cards.half(), Cards.full()}) {
            for (int kind : new int[] {-1, 7, Cards.LEAST, Cards.MOST}) {
                for (int i : new int[] {-1, 0, 9, 10, 21, 22, Cards.LEAST, Cards.MOST}) {
                    due("47: kind " + kind + " at " + i, x.taken(i, kind), -2);
                }
            }
            for (int kind = 0; kind < 7; kind++) {
                for (int i : new int[] {-1, 22, Cards.LEAST, Cards.MOST}) {
                    due("47: place " + i + ", kind " + kind, x.taken(i, kind), -12);
                }
            }
        }
        CardNobodyReads half = Cards.half();
        CardNobodyReads full = Cards.full();
        for (int kind = 0; kind < 7; kind++) {
            for (int i = 0; i < 22; i++) {
                due("47: nothing at all at " + i, Cards.blank().taken(i, kind), -11);
                boolean there = i < 4 || i >= 10 && i < 12;
                if (!there) {
                    due("47: nothing at " + i, half.taken(i, kind), -11);
                }
            }
            due("47: the first line, kind " + kind, half.taken(0, kind), kind == 6 ? 3 : -13);
            due("47: the last line, kind " + kind, half.taken(3, kind), kind == 6 ? 8 : -13);
            due("47: the tenth line, kind " + kind, full.taken(9, kind), kind == 6 ? 7 : -13);
            due("47: a tasted, kind " + kind, half.taken(10, kind), kind < 2 ? 0 : -13);
            due("47: a safe one, kind " + kind, half.taken(11, kind), kind == 0 || kind == 2 || kind == 5 ? 1 : -13);
            due("47: the twelfth fact, kind " + kind, full.taken(21, kind), kind == 0 ? 11 : -13);
            due("47: a seen one, kind " + kind, full.taken(15, kind), kind == 0 || kind == 2 ? 5 : -13);
        }
        CardNobodyReads x = Cards.half();
        x.know(3, 0, 3, 1);
        x.know(4, 0, 3, 0);
        for (int kind = 0; kind < 7; kind++) {
            due("47: a guessed one, kind " + kind, x.taken(12, kind), kind == 0 || kind == 2 || kind == 3 ? 2 : -13);
            due("47: a shared one, kind " + kind, x.taken(13, kind), kind == 0 || kind == 1 || kind == 4 ? 3 : -13);
        }
        x.forget();
        due("47: nothing there any more", x.taken(13, 0), -11);
    }
}
