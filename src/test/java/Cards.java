/** Cards that the tests of edges start from, made the same way each time. */
final class Cards {
    static final int LEAST = Integer.MIN_VALUE;
    static final int MOST = Integer.MAX_VALUE;
    static final long NO = CardNobodyReads.NO;

    private Cards() {
    }

    static void feed(CardNobodyReads x, String bytes) {
        for (int i = 0; i < bytes.length(); i += 5) {
            int n = Math.min(5, bytes.length() - i);
            int[] five = new int[5];
            for (int k = 0; k < n; k++) {
                five[k] = bytes.charAt(i + k);
            }
            x.feed(n, five[0], five[1], five[2], five[3], five[4]);
        }
    }

    /** Feeds a text whole and reads it. */
    static int text(CardNobodyReads x, String text) {
        feed(x, text);
        return x.text();
    }

    static CardNobodyReads blank() {
        return new CardNobodyReads();
    }

    static CardNobodyReads blankWithLines() {
        CardNobodyReads x = new CardNobodyReads();
        x.line(1, 1);
        x.line(2, 2);
        return x;
    }

    static CardNobodyReads blankWithImage() {
        CardNobodyReads x = new CardNobodyReads();
        x.line(1, 1);
        x.image();
        x.line(2, 2);
        return x;
    }

    static CardNobodyReads half() {
        return half("may 1;likes 9;");
    }

    /**
     * Something of all, and room for more of all: 36 tongues fit, sign 0 is part 0 or 1, sign 2 is 3, 4 or 5.
     * THE IMAGE is of another state; sheets 0 .. 2 are one of each sort, each full of lines; sheet 3 is missing.
     */
    static CardNobodyReads half(String tape) {
        CardNobodyReads x = new CardNobodyReads();
        x.line(3, 10);
        x.line(4, 20);
        x.line(5, 30);
        x.know(1, 0, 3, 0);
        x.guest(4);
        x.guest(1);
        x.image();
        x.pays(90);
        x.set(0, 11);
        x.line(8, 40);
        x.guest(63);
        x.know(5, 2, 4, 0);
        text(x, "may price<60;likes 7-guest;learns 8;");
        x.force(1);
        fill(x, 0, 0, 9, 41, 33, 42);
        fill(x, 1, 1, 17, 43);
        fill(x, 2, 2, 18, 44, 1, 45);
        feed(x, tape);
        return x;
    }

    /** As half(), but line 1 is tasted as two things, so that no tongue fits. */
    static CardNobodyReads none() {
        CardNobodyReads x = half();
        x.know(1, 1, 8, 0);
        x.know(1, 1, 16, 0);
        return x;
    }

    /** No room for more of anything; each sign is the part of its number; THE TAPE is blanks behind a fault. */
    static CardNobodyReads full() {
        CardNobodyReads x = new CardNobodyReads();
        for (int l = 0; l < 10; l++) {
            x.line(l < 6 ? 1 << l : 7, 99 - l);
        }
        for (int g = 0; g < 4; g++) {
            x.guest(1 << g);
        }
        for (int f = 0; f < 12; f++) {
            x.know(f < 6 ? 2 : 0, f % 6, f < 6 ? 1 << f : 63, 9);
        }
        for (int t = 1; t < 6; t++) {
            text(x, "may1;likes1;learns1;");
        }
        for (int s = 0; s < 3; s++) {
            x.sheet(s, s, 40);
        }
        feed(x, "?" + " ".repeat(159));
        return x;
    }

    /** Just one tongue fits, that of these six parts; line l is sign l, and its price is l and 1. */
    static CardNobodyReads one(int... tongue) {
        CardNobodyReads x = new CardNobodyReads();
        for (int sign = 0; sign < 6; sign++) {
            x.line(1 << sign, sign + 1);
            x.know(1, sign, 1 << tongue[sign], 0);
        }
        return x;
    }

    static void fill(CardNobodyReads x, int s, int sort, int... row) {
        x.sheet(s, sort, row.length);
        for (int i = 0; i < row.length; i++) {
            x.cell(s, i, row[i]);
        }
    }
}
