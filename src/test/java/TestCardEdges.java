/** The edges that promises 1 to 9 and 11 to 15 name: what is taken last, what is refused first, what stays. */
public final class TestCardEdges {
    private static final int[] FAR = {Cards.LEAST, -1000, 1000, Cards.MOST};

    private TestCardEdges() {
    }

    private static void due(String call, long got, long want) {
        Check.due(call, got, want);
    }

    public static void main(String[] args) {
        atFirst();
        lines();
        linesTold();
        prices();
        guests();
        coin();
        counts();
        bytes();
        laws();
        asks();
        facts();
        forgotten();
        factsTold();
        Check.end();
    }

    private static void atFirst() {
        CardNobodyReads x = Cards.blank();
        int[] counts = {0, 0, 0, 100, 1, 0, 0};
        for (int what = 0; what < 7; what++) {
            due("1: count " + what, x.count(what), counts[what]);
        }
        due("1: no image", x.back(), -3);
        due("1: no fact", x.forget(), -3);
        due("1: no fact at 10", x.taken(10, 0), -11);
        due("1: no line at 0", x.taken(0, 6), -11);
        due("1: no guest", x.safe(0), -5);
        for (int s = 0; s < 4; s++) {
            due("1: sheet " + s + " is missing", x.cell(s, 0, 0), -11);
        }
        due("1: all tongues fit", x.sets(), 720);
        x.line(1, 50);
        due("1: text 0 may", x.asks(0, 0, 63, 0, 0), 1);
        due("1: text 0 likes", x.asks(1, 0, 63, 0, 0), 6);
        due("1: text 0 learns", x.asks(2, 0, 63, 0, 20), 700);
        due("1: one object is not another", Cards.blank().count(0), 0);
    }

    // ---- 2 to 4

    private static boolean mayBeSigns(int set) {
        return set >= 1 && set <= 63 && Integer.bitCount(set) <= 3;
    }

    private static void lines() {
        for (int set = -66; set <= 130; set++) {
            CardNobodyReads x = Cards.blank();
            due("2: signs " + set, x.line(set, 5), mayBeSigns(set) ? 0 : -2);
            due("2: signs " + set + " told", x.lineTold(0, 0), mayBeSigns(set) ? set : -5);
        }
        for (int cost = -3; cost <= 103; cost++) {
            CardNobodyReads x = Cards.blank();
            due("2: price " + cost, x.line(7, cost), cost >= 1 && cost <= 99 ? 0 : -2);
            due("2: price " + cost + " told", x.lineTold(0, 1), cost >= 1 && cost <= 99 ? cost : -5);
        }
        for (int far : FAR) {
            Edge.leaves("2: signs " + far, Cards::half, x -> x.line(far, 1), -2);
            Edge.leaves("2: price " + far, Cards::half, x -> x.line(1, far), -2);
        }
        Edge.leaves("2: no signs", Cards::half, x -> x.line(0, 1), -2);
        Edge.leaves("2: four signs", Cards::half, x -> x.line(60, 1), -2);
        Edge.leaves("2: no such sign", Cards::half, x -> x.line(64, 1), -2);
        Edge.leaves("2: no such sign beside one", Cards::half, x -> x.line(65, 1), -2);
        Edge.leaves("2: price 0", Cards::half, x -> x.line(1, 0), -2);
        Edge.leaves("2: price 100", Cards::half, x -> x.line(1, 100), -2);
        due("2: the next number", Cards.half().line(1, 1), 4);
        Edge.leaves("2: full", Cards::full, x -> x.line(1, 1), -4);
        Edge.leaves("2: bad signs ahead of full", Cards::full, x -> x.line(0, 1), -2);
        Edge.leaves("2: bad signs ahead of full", Cards::full, x -> x.line(64, 1), -2);
        Edge.leaves("2: bad price ahead of full", Cards::full, x -> x.line(1, 0), -2);
        Edge.leaves("2: bad price ahead of full", Cards::full, x -> x.line(1, 100), -2);
        CardNobodyReads x = Cards.blank();
        for (int l = 0; l < 10; l++) {
            due("2: number " + l, x.line(1 << l % 6, l + 1), l);
        }
        due("2: the eleventh", x.line(1, 1), -4);
        for (int l = 0; l < 10; l++) {
            due("2: signs of " + l, x.lineTold(l, 0), 1 << l % 6);
            due("2: price of " + l, x.lineTold(l, 1), l + 1);
        }
    }

    private static void linesTold() {
        CardNobodyReads x = Cards.half();
        for (int l : new int[] {-1, 4, Cards.LEAST, Cards.MOST, 10}) {
            for (int what : new int[] {-1, 0, 1, 2}) {
                due("3: line " + l + ", what " + what, x.lineTold(l, what), -5);
                due("3: no lines, what " + what, Cards.blank().lineTold(0, what), -5);
            }
        }
        for (int what : new int[] {-1, 2, Cards.LEAST, Cards.MOST}) {
            due("3: what " + what, x.lineTold(0, what), -7);
            due("3: what " + what, x.lineTold(3, what), -7);
        }
        due("3: the first line", x.lineTold(0, 0) * 100 + x.lineTold(0, 1), 311);
        due("3: the last line", x.lineTold(3, 0) * 100 + x.lineTold(3, 1), 840);
        Edge.changesNothing("3: signs", y -> y.lineTold(1, 0));
        Edge.leaves("3: refused", Cards::half, y -> y.lineTold(4, 0), -5);
    }

    private static void prices() {
        CardNobodyReads x = Cards.half();
        due("4: the least", x.set(0, 1) * 100 + x.lineTold(0, 1), 1101);
        due("4: the most", x.set(3, 99) * 100 + x.lineTold(3, 1), 4099);
        due("4: the same", x.set(3, 99) * 100 + x.lineTold(3, 1), 9999);
        for (int v : new int[] {0, 100, -1, Cards.LEAST, Cards.MOST}) {
            Edge.leaves("4: price " + v, Cards::half, y -> y.set(0, v), -7);
            Edge.leaves("4: price " + v + " of no line", Cards::half, y -> y.set(4, v), -5);
        }
        for (int l : new int[] {-1, 4, 10, Cards.LEAST, Cards.MOST}) {
            Edge.leaves("4: line " + l, Cards::half, y -> y.set(l, 5), -5);
        }
        due("4: no lines", Cards.blank().set(0, 5), -5);
        due("4: the last of ten", Cards.full().set(9, 7), 90);
    }

    // ---- 5 to 8

    private static void guests() {
        for (int set = -3; set <= 66; set++) {
            CardNobodyReads x = Cards.blank();
            boolean may = set >= 0 && set <= 63;
            due("5: parts " + set, x.guest(set), may ? 0 : -2);
            due("6: parts " + set, x.guestTold(0), may ? set : -5);
        }
        for (int set : new int[] {-1, 64, Cards.LEAST, Cards.MOST}) {
            Edge.leaves("5: parts " + set, Cards::half, x -> x.guest(set), -2);
            Edge.leaves("5: bad ahead of full", Cards::full, x -> x.guest(set), -2);
        }
        Edge.leaves("5: full", Cards::full, x -> x.guest(0), -4);
        CardNobodyReads x = Cards.half();
        due("5: the fourth", x.guest(5), 3);
        due("5: the fifth", x.guest(5), -4);
        int[] told = {4, 1, 63, 5};
        for (int g = 0; g < 4; g++) {
            due("6: guest " + g, x.guestTold(g), told[g]);
        }
        for (int g : new int[] {-1, 3, Cards.LEAST, Cards.MOST}) {
            due("6: guest " + g, Cards.half().guestTold(g), -5);
        }
        due("6: guest 4 of 4", x.guestTold(4), -5);
        due("6: no guests", Cards.blank().guestTold(0), -5);
        Edge.changesNothing("6: parts", y -> y.guestTold(1));
    }

    private static void coin() {
        CardNobodyReads x = Cards.blank();
        due("7: 100 at first", x.pays(0), 100);
        due("7: the least", x.pays(999), 0);
        due("7: the most", x.pays(50), 999);
        for (int v : new int[] {-1, 1000, Cards.LEAST, Cards.MOST}) {
            Edge.leaves("7: " + v, Cards::half, y -> y.pays(v), -2);
        }
        due("7: what it was", Cards.half().pays(1), 90);
    }

    private static void counts() {
        for (int what : new int[] {-1, 7, Cards.LEAST, Cards.MOST}) {
            Edge.leaves("8: what " + what, Cards::half, x -> x.count(what), -2);
        }
        CardNobodyReads x = Cards.half();
        int[] half = {4, 3, 2, 90, 2, 1, 14};
        CardNobodyReads y = Cards.full();
        int[] full = {10, 4, 12, 100, 6, 0, 160};
        for (int what = 0; what < 7; what++) {
            int asked = what;
            due("8: half, " + what, x.count(what), half[what]);
            due("8: full, " + what, y.count(what), full[what]);
            Edge.changesNothing("8: what " + what, z -> z.count(asked));
        }
    }

    // ---- 9

    private static void bytes() {
        for (int n : new int[] {0, 6, -1, Cards.LEAST, Cards.MOST}) {
            Edge.leaves("9: n " + n, Cards::half, x -> x.feed(n, 32, 32, 32, 32, 32), -2);
        }
        for (int bad : new int[] {-1, 256, Cards.LEAST, Cards.MOST}) {
            for (int n = 1; n <= 5; n++) {
                int many = n;
                Edge.leaves("9: a " + bad, Cards::half, x -> x.feed(many, bad, 1, 1, 1, 1), -2);
                Edge.leaves("9: b " + bad, Cards::half, x -> x.feed(many, 1, bad, 1, 1, 1), -2);
                Edge.leaves("9: c " + bad, Cards::half, x -> x.feed(many, 1, 1, bad, 1, 1), -2);
                Edge.leaves("9: d " + bad, Cards::half, x -> x.feed(many, 1, 1, 1, bad, 1), -2);
                Edge.leaves("9: e " + bad, Cards::half, x -> x.feed(many, 1, 1, 1, 1, bad), -2);
            }
        }
        for (int n = 1; n <= 5; n++) {
            int many = n;
            due("9: 0 and 255, " + n, Cards.half().feed(n, 0, 255, 0, 255, 0), 14 + n);
            Edge.leaves("9: no room, " + n, Cards::full, x -> x.feed(many, 1, 1, 1, 1, 1), -4);
            Edge.leaves("9: bad ahead of full", Cards::full, x -> x.feed(many, 1, 1, 1, 1, 256), -2);
            Edge.leaves("9: room for one less than " + n, () -> filled(161 - many),
                    x -> x.feed(many, 1, 1, 1, 1, 1), -4);
            due("9: room for just " + n, filled(160 - n).feed(n, 1, 1, 1, 1, 1), 160);
            inOrder(n);
        }
        Edge.leaves("9: n ahead of full", Cards::full, x -> x.feed(0, 1, 1, 1, 1, 1), -2);
    }

    private static CardNobodyReads filled(int size) {
        return Cards.half(" ".repeat(size));
    }

    /** A text that comes n bytes by n is the text. */
    private static void inOrder(int n) {
        String text = "may 1;likes 23;learns 456;";
        CardNobodyReads x = Cards.blank();
        x.line(1, 1);
        for (int i = 0; i < text.length(); i += n) {
            int[] five = {33, 33, 33, 33, 33};
            int many = Math.min(n, text.length() - i);
            for (int k = 0; k < many; k++) {
                five[k] = text.charAt(i + k);
            }
            due("9: by " + n, x.feed(many, five[0], five[1], five[2], five[3], five[4]), i + many);
        }
        due("9: it is sound", x.text(), 1);
        x.force(1);
        due("9: it is in order", x.asks(1, 0, 0, 0, 0) * 1000 + x.asks(2, 0, 0, 0, 0), 23456);
    }

    // ---- 11 and 12

    private static void laws() {
        for (int t : new int[] {-1, 2, 6, Cards.LEAST, Cards.MOST}) {
            Edge.leaves("11: text " + t, Cards::half, x -> x.force(t), -2);
        }
        Edge.leaves("11: text 6 of 6", Cards::full, x -> x.force(6), -2);
        due("11: the last", Cards.full().force(5), 0);
        due("11: the first", Cards.half().force(0), 1);
        due("11: the same", Cards.half().force(1), 1);
        due("11: only text 0 is there", Cards.blank().force(1), -2);
        due("11: text 0 again", Cards.blank().force(0), 0);
        CardNobodyReads x = Cards.half();
        due("11: by text 1", x.asks(1, 0, 0, 0, 0), 7);
        x.force(0);
        due("11: by text 0", x.asks(1, 0, 0, 0, 0), 39);
    }

    private static void asks() {
        int[][] bad = {{-1, 3, Cards.LEAST, Cards.MOST}, {-1, 64, Cards.LEAST, Cards.MOST},
            {-1, 4, Cards.LEAST, Cards.MOST}, {-1, 721, Cards.LEAST, Cards.MOST}};
        for (int i = 0; i < 4; i++) {
            int part = bad[0][i];
            int set = bad[1][i];
            int guest = bad[2][i];
            int left = bad[3][i];
            CardNobodyReads x = Cards.half();
            due("12: part " + part, x.asks(part, 0, 0, 0, 0), -7);
            for (int right = 0; right < 3; right++) {
                due("12: parts " + set, x.asks(right, 0, set, 0, 0), -7);
                due("12: guest " + guest, x.asks(right, 0, 0, guest, 0), -7);
                due("12: left " + left, x.asks(right, 0, 0, 0, left), -7);
                due("12: no line " + set, x.asks(right, -1, set, 0, 0), -5);
                due("12: no line " + set, x.asks(right, 4, 0, guest, 0), -5);
                due("12: no line " + set, x.asks(right, Cards.MOST, 0, 0, left), -5);
                due("12: no line " + set, x.asks(part, Cards.LEAST, 0, 0, 0), -5);
            }
        }
        CardNobodyReads x = Cards.blank();
        due("12: no lines", x.asks(0, 0, 0, 0, 0), -5);
        x.line(1, 50);
        Cards.text(x, "may 1;likes guest*10+many;learns left+parts;");
        x.force(1);
        due("12: guest 3 is not there", x.asks(1, 0, 63, 3, 0), 36);
        due("12: no parts, guest 0", x.asks(1, 0, 0, 0, 0), 0);
        due("12: left 720", x.asks(2, 0, 63, 0, 720), 783);
        due("12: left 0", x.asks(2, 0, 0, 0, 0), 0);
        due("12: the last line", Cards.full().asks(1, 9, 63, 0, 0), 0);
        Edge.changesNothing("12: may", y -> y.asks(0, 3, 63, 3, 720));
        Edge.changesNothing("12: likes", y -> y.asks(1, 3, 63, 3, 720));
        Edge.changesNothing("12: learns", y -> y.asks(2, 3, 63, 3, 720));
    }

    // ---- 13 to 15

    private static void facts() {
        int[][] bad = {{-1, 0, 0, 0}, {6, 0, 0, 0}, {0, -1, 0, 0}, {0, 4, 0, 0}, {0, 0, -1, 0}, {0, 0, 64, 0},
            {0, 0, 0, -1}, {0, 0, 0, 10}, {4, 0, 0, 4}, {4, 0, 0, 9}, {4, 4, 0, 0}, {Cards.LEAST, 0, 0, 0},
            {Cards.MOST, 0, 0, 0}, {0, Cards.LEAST, 0, 0}, {0, Cards.MOST, 0, 0}, {0, 0, Cards.LEAST, 0},
            {0, 0, Cards.MOST, 0}, {0, 0, 0, Cards.LEAST}, {0, 0, 0, Cards.MOST}, {4, 0, 0, -1}, {4, 0, 0, 10}};
        for (int[] b : bad) {
            String told = b[0] + " " + b[1] + " " + b[2] + " " + b[3];
            Edge.leaves("13: " + told, Cards::half, x -> x.know(b[0], b[1], b[2], b[3]), -2);
            Edge.leaves("32: " + told, Cards::half, x -> x.would(b[0], b[1], b[2], b[3]), -2);
        }
        for (int kind = 0; kind < 6; kind++) {
            int k = kind;
            due("13: the most of all, kind " + kind, Cards.half().know(kind, 3, 63, kind == 4 ? 3 : 9), 2);
            due("13: the least of all, kind " + kind, Cards.half().know(kind, 0, 0, 0), 2);
            due("13: no lines, kind " + kind, Cards.blank().know(kind, 0, 0, 0), -2);
            Edge.leaves("13: full, kind " + kind, Cards::full, x -> x.know(k, 0, 0, 0), -4);
            Edge.leaves("13: bad ahead of full", Cards::full, x -> x.know(k, 10, 0, 0), -2);
            Edge.leaves("13: bad ahead of full", Cards::full, x -> x.know(k, 0, 64, 0), -2);
            Edge.leaves("13: bad ahead of full", Cards::full, x -> x.know(k, 0, 0, 10), -2);
        }
        Edge.leaves("13: bad ahead of full", Cards::full, x -> x.know(6, 0, 0, 0), -2);
        CardNobodyReads x = Cards.full();
        due("13: shared with the last of ten", x.forget() * 100 + x.know(4, 0, 1, 9), 1111);
    }

    private static void forgotten() {
        Edge.leaves("14: no facts", Cards::blankWithImage, CardNobodyReads::forget, -3);
        CardNobodyReads x = Cards.full();
        for (int f = 11; f >= 0; f--) {
            due("14: " + f + " are left", x.forget(), f);
            due("14: it is gone", x.factTold(f, 0), -5);
        }
        due("14: none", x.forget(), -3);
        due("14: none again", x.forget(), -3);
        due("14: all fit again", x.sets(), 720);
        for (int more = 0; more < 3; more++) {
            images(more);
        }
    }

    /** THE IMAGE is of one fact; so many come since, and go. */
    private static void images(int more) {
        CardNobodyReads x = Cards.half();
        x.forget();
        for (int f = 0; f < more; f++) {
            x.know(0, 0, 0, 0);
        }
        for (int f = 0; f < more; f++) {
            x.forget();
        }
        due("14: the image has none of them", x.back(), 3);
        due("14: its fact is there", x.count(2), 1);
        due("14: its fact goes", x.forget(), 0);
        due("14: nor is there the image", x.back(), -3);
        for (int f = 0; f <= more; f++) {
            x.know(1, 0, 3, 0);
        }
        due("14: nor when there is a like one", x.back(), -3);
        due("41: till there is another", x.image(), 3);
        due("42: which there is", x.back(), 3);
    }

    private static void factsTold() {
        CardNobodyReads x = Cards.half();
        int[][] told = {{1, 0, 3, 0}, {5, 2, 4, 0}};
        for (int f = 0; f < 2; f++) {
            for (int what = 0; what < 4; what++) {
                due("15: fact " + f + ", what " + what, x.factTold(f, what), told[f][what]);
            }
        }
        for (int f : new int[] {-1, 2, 12, Cards.LEAST, Cards.MOST}) {
            for (int what : new int[] {-1, 0, 3, 4}) {
                due("15: fact " + f + ", what " + what, x.factTold(f, what), -5);
                due("15: no facts, what " + what, Cards.blank().factTold(0, what), -5);
            }
        }
        for (int what : new int[] {-1, 4, Cards.LEAST, Cards.MOST}) {
            due("15: what " + what, x.factTold(0, what), -7);
            due("15: what " + what, x.factTold(1, what), -7);
        }
        CardNobodyReads y = Cards.full();
        due("15: the last of twelve", y.factTold(11, 2) * 100 + y.factTold(11, 3), 6309);
        due("15: the thirteenth", y.factTold(12, 0), -5);
        Edge.changesNothing("15: kind", z -> z.factTold(1, 0));
    }
}
