import java.util.Arrays;

/** Each promise of the document by its number: ordinary numbers, the edges, wrong numbers. */
public final class TestPromises {
    private static final int LEAST = Integer.MIN_VALUE;
    private static final int MOST = Integer.MAX_VALUE;
    private static final long NO = CardNobodyReads.NO;

    private TestPromises() {
    }

    private static void due(String call, long got, long want) {
        Check.due(call, got, want);
    }

    private static int text(CardNobodyReads x, String text) {
        return Cards.text(x, text);
    }

    /** Two signs tasted as parts 0 and 1: 48 tongues fit; line 1 is sign 2, line 2 signs 0 and 2. */
    private static CardNobodyReads tasted() {
        CardNobodyReads x = new CardNobodyReads();
        x.line(3, 10);
        x.line(4, 20);
        x.line(5, 30);
        x.know(1, 0, 3, 0);
        return x;
    }

    private static CardNobodyReads withGuests() {
        CardNobodyReads x = tasted();
        x.guest(4);
        x.guest(1);
        x.guest(0);
        x.guest(63);
        return x;
    }

    /** A line that is tasted as two things: nothing fits. */
    private static CardNobodyReads clashing() {
        CardNobodyReads x = withGuests();
        x.know(1, 1, 4, 0);
        x.know(1, 1, 8, 0);
        return x;
    }

    public static void main(String[] args) {
        constants();
        card();
        guests();
        tape();
        laws();
        asking();
        facts();
        kinds();
        whatFits();
        whatLinesHave();
        safety();
        tonight();
        middle();
        taste();
        two();
        ask();
        would();
        clashAndIdle();
        bill();
        match();
        film();
        whichLaws();
        drawn();
        chance();
        image();
        sheets();
        copies();
        linesBy();
        taken();
        Check.end();
    }

    private static void constants() {
        due("NONE", CardNobodyReads.NONE, -1);
        due("BAD", CardNobodyReads.BAD, -2);
        due("STATE", CardNobodyReads.STATE, -3);
        due("FULL", CardNobodyReads.FULL, -4);
        due("NO", CardNobodyReads.NO, -4611686018427387904L);
    }

    // ---- promises 1 to 4

    private static void card() {
        CardNobodyReads x = new CardNobodyReads();
        int[] atFirst = {0, 0, 0, 100, 1, 0, 0};
        for (int what = 0; what < 7; what++) {
            due("1: count " + what, x.count(what), atFirst[what]);
        }
        due("1: no line", x.lineTold(0, 0), -5);
        due("1: no guest", x.guestTold(0), -5);
        due("1: no fact", x.factTold(0, 0), -5);
        due("1: all fit", x.sets(), 720);

        for (int[] bad : new int[][] {{0, 1}, {15, 1}, {63, 1}, {64, 1}, {-1, 1}, {1, 0}, {1, 100}, {1, -1},
            {LEAST, 1}, {MOST, 1}, {1, LEAST}, {1, MOST}}) {
            due("2: " + Arrays.toString(bad), x.line(bad[0], bad[1]), -2);
        }
        due("2: one sign", x.line(32, 1), 0);
        due("2: two signs", x.line(33, 99), 1);
        due("2: three signs", x.line(56, 50), 2);
        due("2: the same once more", x.line(56, 50), 3);
        for (int l = 4; l < 10; l++) {
            due("2: line " + l, x.line(1, l), l);
        }
        due("2: an eleventh", x.line(1, 1), -4);
        due("2: bad ahead of full", x.line(0, 1), -2);
        due("2: how many", x.count(0), 10);

        due("3: signs", x.lineTold(1, 0), 33);
        due("3: price", x.lineTold(1, 1), 99);
        due("3: the last one's price", x.lineTold(9, 1), 9);
        due("3: what 2", x.lineTold(1, 2), -7);
        due("3: what -1", x.lineTold(1, -1), -7);
        due("3: line 10", x.lineTold(10, 0), -5);
        due("3: line -1", x.lineTold(-1, 9), -5);
        due("3: far line", x.lineTold(MOST, 0), -5);

        due("4: was", x.set(2, 99), 50);
        due("4: became", x.lineTold(2, 1), 99);
        due("4: was again", x.set(2, 1), 99);
        due("4: signs stay", x.lineTold(2, 0), 56);
        due("4: the next line's stays", x.lineTold(3, 1), 50);
        due("4: 0", x.set(2, 0), -7);
        due("4: 100", x.set(2, 100), -7);
        due("4: no line", x.set(10, 5), -5);
        due("4: no line ahead of v", x.set(-1, 0), -5);
        due("4: stayed", x.lineTold(2, 1), 1);
    }

    // ---- promises 5 to 8

    private static void guests() {
        CardNobodyReads x = new CardNobodyReads();
        due("5: 64", x.guest(64), -2);
        due("5: -1", x.guest(-1), -2);
        due("5: none shunned", x.guest(0), 0);
        due("5: all shunned", x.guest(63), 1);
        due("5: third", x.guest(5), 2);
        due("6: no such", x.guestTold(3), -5);
        due("5: fourth", x.guest(8), 3);
        due("5: fifth", x.guest(8), -4);
        due("5: bad ahead of full", x.guest(64), -2);
        due("6: 0", x.guestTold(0), 0);
        due("6: 1", x.guestTold(1), 63);
        due("6: 2", x.guestTold(2), 5);
        due("6: 3", x.guestTold(3), 8);
        due("6: 4", x.guestTold(4), -5);
        due("6: -1", x.guestTold(-1), -5);

        due("7: was", x.pays(0), 100);
        due("7: was 0", x.pays(999), 0);
        due("7: 1000", x.pays(1000), -2);
        due("7: -1", x.pays(-1), -2);
        due("8: coin", x.count(3), 999);
        due("8: guests", x.count(1), 4);
        due("8: what 7", x.count(7), -2);
        due("8: what -1", x.count(-1), -2);
        due("8: far", x.count(LEAST), -2);
        CardNobodyReads y = tasted();
        text(y, "may1;likes1;learns1;");
        y.force(1);
        y.feed(3, 1, 2, 3, 4, 5);
        int[] now = {3, 0, 1, 100, 2, 1, 3};
        for (int what = 0; what < 7; what++) {
            due("8: count " + what, y.count(what), now[what]);
        }
    }

    // ---- promises 9 and 10

    private static void tape() {
        CardNobodyReads x = new CardNobodyReads();
        due("9: n 0", x.feed(0, 0, 0, 0, 0, 0), -2);
        due("9: n 6", x.feed(6, 0, 0, 0, 0, 0), -2);
        due("9: 256", x.feed(1, 256, 0, 0, 0, 0), -2);
        due("9: -1", x.feed(5, 1, -1, 0, 0, 0), -2);
        due("9: bad beyond n, c", x.feed(1, 1, 0, 256, 0, 0), -2);
        due("9: bad beyond n, d", x.feed(1, 1, 0, 0, -1, 0), -2);
        due("9: bad beyond n, e", x.feed(1, 1, 0, 0, 0, MOST), -2);
        due("9: none came", x.count(6), 0);
        due("9: three", x.feed(3, 0, 255, 1, 2, 3), 3);
        due("9: five", x.feed(5, 32, 32, 32, 32, 32), 8);
        for (int i = 13; i <= 158; i += 5) {
            due("9: up to " + i, x.feed(5, 32, 32, 32, 32, 32), i);
        }
        due("9: three do not have room", x.feed(3, 32, 32, 32, 32, 32), -4);
        due("9: none of the three came", x.count(6), 158);
        due("9: bad ahead of full", x.feed(3, 256, 32, 32, 32, 32), -2);
        due("9: two have room", x.feed(2, 32, 32, 32, 32, 32), 160);
        due("9: one more has none", x.feed(1, 32, 32, 32, 32, 32), -4);
        due("10: a byte 0 begins none", x.text(), -100);
        due("10: the tape is empty then", x.count(6), 0);

        due("9: in order", x.feed(5, 'm', 'a', 'y', '1', ';'), 5);
        due("9: in order", x.feed(5, 'l', 'i', 'k', 'e', 's'), 10);
        due("9: in order", x.feed(5, '7', ';', 'l', 'e', 'a'), 15);
        due("9: in order", x.feed(5, 'r', 'n', 's', '8', ';'), 20);
        due("10: the second text", x.text(), 1);
        due("10: the tape is empty then", x.count(6), 0);
        for (int t = 2; t < 6; t++) {
            due("10: text " + t, text(x, "may 1;likes 1;learns 1;"), t);
        }
        due("8: texts", x.count(4), 6);
        due("10: a seventh", text(x, "may 1;likes 1;learns 1;"), -4);
        due("10: the tape stays", x.count(6), 23);
        due("10: full ahead of a fault", text(x, "?"), -4);
        due("10: the tape stays", x.count(6), 24);
        due("8: texts", x.count(4), 6);
        faults();
    }

    private static void fault(String text, int place) {
        CardNobodyReads x = new CardNobodyReads();
        due("10: " + text, text(x, text), -100 - place);
        due("10: empty after " + text, x.count(6), 0);
        due("10: no text by " + text, x.count(4), 1);
    }

    private static void sound(String text) {
        CardNobodyReads x = new CardNobodyReads();
        due("10: " + text, text(x, text), 1);
        due("10: empty after " + text, x.count(6), 0);
    }

    private static void faults() {
        fault("", 0);
        fault(" ", 1);
        fault(" \n ", 3);
        fault("may", 3);
        fault("may 1", 5);
        fault("may 1 ", 6);
        fault("may 1;likes 1;learns 1", 22);
        fault("may 1;likes 1;learns 1\n", 23);
        fault("likes 1;may 1;learns 1;", 0);
        fault("may 1;learns 1;likes 1;", 6);
        fault("may 1;likes 1;learns 1;;", 23);
        fault("may 1;likes 1;learns 1; may", 24);
        fault("may 1;likes 1;learns 1; \u00ff", 24);
        fault("may ;", 4);
        fault("may 12345;", 4);
        fault("may 1+00001;", 6);
        fault("may 1 2;", 6);
        fault("may 1 12345;", 6);
        fault("may foo;", 4);
        fault("may 1 foo;", 6);
        fault("may prices;", 4);
        fault("may pric;", 4);
        fault("may price parts;", 10);
        fault("mayprice;", 0);
        fault("May 1;", 0);
        fault("may\t1;", 3);
        fault("may\r1;", 3);
        fault("may 1>2;", 5);
        fault("may (1;", 6);
        fault("may 1);", 5);
        fault("may ();", 5);
        fault("may not;", 7);
        fault("may 1 not 1;", 6);
        fault("may 1<2<3;", 7);
        fault("may 1=2<3;", 7);
        fault("may 1+not 2;", 6);
        fault("may -not 2;", 5);
        fault("may 1<not 2;", 6);
        fault("may 1 or;", 8);
        fault("may or 1;", 4);
        fault("may 1 and or;", 10);
        fault("may +1;", 4);
        fault("may 1*;", 6);
        fault("may 1+*2;", 6);
        fault("may 1<;", 6);
        fault("may may;", 4);
        fault("may 1;likes likes;", 12);
        fault("may ((((((1", 9);
        fault("may ------1", 9);
        fault("may not not not not not not 1", 24);
        fault("may not(-(-(1", 11);
        fault("may (((((-1", 9);
        fault("may (((((not 1", 9);
        fault("may -----(1", 9);
        fault("may (((((1+((2", 11);
        fault("may (((((1)+(2)+((3", 17);
        fault("may 1;likes (((((1;", 18);
        fault("may 1" + "+1".repeat(77) + " ", 160);
        fault("may 1" + "+1".repeat(77) + "+", 160);
        fault("may 1;likes 1;learns 1;" + " ".repeat(136) + "1", 159);
        sound("may 1;likes 1;learns 1;" + " ".repeat(137));
        sound("may 1;likes 1;learns 1;");
        sound("\n may 1 ; likes 1 ; learns 1 ; \n");
        sound("may1;likes1;learns1;");
        sound("may 1or 2and 3;likes 1;learns 1;");
        sound("may 9999;likes 0000;learns 0;");
        sound("may (((((1)))));likes (((((1)))));learns (((((1)))));");
        sound("may -----1;likes -----1;learns -----1;");
        sound("may not not not not not 1;likes 1;learns 1;");
        sound("may (1)-(2)-(3)-(4)-(5)-(6);likes 1;learns 1;");
        sound("may -1*-1*-1*-1*-1*-1*-1;likes 1;learns 1;");
        sound("may -1--1--1--1--1--1--1;likes 1;learns 1;");
        sound("may not 1 and not 1 or not 1 and not 1 or not 1 and not 1;likes 1;learns 1;");
        sound("may ((((1)+(2)+(3)+(4)+(5)+(6))));likes 1;learns 1;");
        sound("may not(1<2)=3;likes 1;learns 1;");
    }

    // ---- promises 11 and 12

    private static void laws() {
        CardNobodyReads x = new CardNobodyReads();
        x.line(1, 10);
        text(x, "may parts<8;likes 1;learns 2;");
        text(x, "may 0;likes 1;learns 2;");
        due("11: no text 3", x.force(3), -2);
        due("11: -1", x.force(-1), -2);
        due("11: stays", x.count(5), 0);
        due("11: was", x.force(1), 0);
        due("11: is", x.count(5), 1);
        due("11: by it", x.sets(), 360);
        due("11: was 1", x.force(2), 1);
        due("11: by it none", x.sets(), 0);
        due("11: again", x.force(2), 2);
        due("11: back", x.force(0), 2);
        due("11: all", x.sets(), 720);
        text(x, "may place=0 and many=1 and not guest and not left;likes 1;learns 2;");
        x.force(3);
        due("11: may asks with guest 0, left 0", x.sets(), 720);
        x.line(1, 10);
        due("11: and with the place", x.sets(), 0);
    }

    private static void says(String e, int value) {
        CardNobodyReads x = new CardNobodyReads();
        x.line(1, 1);
        x.line(7, 45);
        due("10: " + e, text(x, "may " + e + ";likes " + e + ";learns " + e + ";"), 1);
        x.force(1);
        due("12: may " + e, x.asks(0, 1, 21, 3, 77), value == 0 ? 0 : 1);
        due("12: likes " + e, x.asks(1, 1, 21, 3, 77), Math.max(0, Math.min(99, value)));
        due("12: learns " + e, x.asks(2, 1, 21, 3, 77), Math.max(0, Math.min(999, value)));
    }

    private static void asking() {
        CardNobodyReads x = new CardNobodyReads();
        x.line(1, 1);
        x.line(7, 45);
        x.line(7, 70);
        due("12: may", x.asks(0, 1, 0, 0, 0), 1);
        due("12: likes", x.asks(1, 1, 21, 0, 0), 8);
        due("12: likes at least 0", x.asks(1, 2, 1, 0, 0), 0);
        due("12: learns", x.asks(2, 1, 21, 3, 77), 643);
        due("12: learns of 720", x.asks(2, 1, 63, 0, 720), 0);
        due("12: by the price now", x.set(1, 40) * 100 + x.asks(1, 1, 21, 0, 0), 4513);
        for (int[] bad : new int[][] {{-1, 0, 0, 0, 0}, {3, 0, 0, 0, 0}, {0, 0, -1, 0, 0}, {0, 0, 64, 0, 0},
            {0, 0, 0, -1, 0}, {0, 0, 0, 4, 0}, {0, 0, 0, 0, -1}, {0, 0, 0, 0, 721}}) {
            due("12: " + Arrays.toString(bad), x.asks(bad[0], bad[1], bad[2], bad[3], bad[4]), -7);
            due("12: no line ahead", x.asks(bad[0], 3, bad[2], bad[3], bad[4]), -5);
        }
        due("12: line -1", x.asks(0, -1, 0, 0, 0), -5);
        says("price", 45);
        says("parts", 21);
        says("place", 1);
        says("many", 3);
        says("guest", 3);
        says("left", 77);
        says("9999", 9999);
        says("98", 98);
        says("100", 100);
        says("998", 998);
        says("0-1", -1);
        says("-price", -45);
        says("--7", 7);
        says("2+3*4", 14);
        says("(2+3)*4", 20);
        says("20-5-3", 12);
        says("-2*-3", 6);
        says("1<2", 1);
        says("2<2", 0);
        says("3<2", 0);
        says("2=2", 1);
        says("2=3", 0);
        says("1+1<1*3", 1);
        says("0 or 5", 1);
        says("0 or 0", 0);
        says("5 or 0", 1);
        says("5 and 7", 1);
        says("5 and 0", 0);
        says("0 and 5", 0);
        says("1 or 0 and 0", 1);
        says("(1 or 0) and 0", 0);
        says("not 5", 0);
        says("not 0", 1);
        says("not not 5", 1);
        says("not 0 and 0", 0);
        says("not 1<0", 1);
        says("not 2=3", 1);
        says("1 and not 0", 1);
        says("0-7<0", 1);
        says("9999*9999*9999", 9999 * 9999 * 9999);
        says("9999*9999*10", 9999 * 9999 * 10);
        says("9999*9999*30", 9999 * 9999 * 30);
        says("1or 1and 1<1+1*(1)", 1);
        // the deepest waiting that the grammar lets through
        sound("may 0or 1and 1<1+1*(0or 1and 1<1+1*(0or 1and 1<1+1*(0or 1and 1<1+1*(0or 1and 1<1+1*(0or 1and 1<1+1*2)))))"
                + ";likes 1;learns 1;");
        CardNobodyReads y = new CardNobodyReads();
        y.line(1, 1);
        text(y, "may 1;likes 0or 3and 2<1+1*(9*(0or 3and 2<1+1*(9*(0or 3and 2<1+1*2))));learns "
                + "5-(4-(3-(2-(1-(7*many+guest)))));");
        y.force(1);
        due("12: deep", y.asks(1, 0, 0, 0, 0), 1);
        due("12: deep", y.asks(2, 0, 63, 3, 0), 0);
        text(y, "may 1;likes 1-(0or 1and 1<1+1*(0or 1and 1<1+1*(0or 1and 1<1+1*(0or 1and 1<1+1*(0or 1and 3<1+1*guest)))))"
                + ";learns 1;");
        y.force(2);
        due("12: deeper, guest 3", y.asks(1, 0, 0, 3, 0), 0);
        due("12: deeper, guest 2", y.asks(1, 0, 0, 2, 0), 1);
        String waiting = "0or 1and 1<1+1*(";
        text(y, "may 1;likes " + waiting.repeat(5) + "0or 1and 1<1+1*guest)))));learns 1;");
        y.force(3);
        due("12: deepest, guest 1", y.asks(1, 0, 0, 1, 0), 1);
        due("12: deepest, guest 0", y.asks(1, 0, 0, 0, 0), 0);
    }

    // ---- promises 13 to 15

    private static void facts() {
        CardNobodyReads x = tasted();
        for (int[] bad : new int[][] {{-1, 0, 0, 0}, {6, 0, 0, 0}, {0, -1, 0, 0}, {0, 3, 0, 0}, {0, 0, -1, 0},
            {0, 0, 64, 0}, {0, 0, 0, -1}, {0, 0, 0, 10}, {4, 0, 0, 3}}) {
            due("13: " + Arrays.toString(bad), x.know(bad[0], bad[1], bad[2], bad[3]), -2);
            due("32: " + Arrays.toString(bad), x.would(bad[0], bad[1], bad[2], bad[3]), -2);
        }
        due("13: none came", x.count(2), 1);
        due("13: next", x.know(4, 2, 63, 2), 1);
        due("13: a MORE that names no line", x.know(3, 1, 0, 9), 2);
        due("15: kind", x.factTold(1, 0), 4);
        due("15: line", x.factTold(1, 1), 2);
        due("15: parts", x.factTold(1, 2), 63);
        due("15: more", x.factTold(1, 3), 2);
        due("15: more", x.factTold(2, 3), 9);
        due("15: what 4", x.factTold(1, 4), -7);
        due("15: what -1", x.factTold(1, -1), -7);
        due("15: no fact", x.factTold(3, 0), -5);
        due("15: no fact ahead of what", x.factTold(-1, 9), -5);
        for (int f = 3; f < 12; f++) {
            due("13: fact " + f, x.know(0, 0, 0, 0), f);
        }
        due("13: a thirteenth", x.know(0, 0, 0, 0), -4);
        due("13: bad ahead of full", x.know(0, 0, 64, 0), -2);
        due("32: twelve", x.would(0, 0, 0, 0), -3);
        due("32: twelve ahead of bad", x.would(9, 0, 0, 0), -3);
        due("14: eleven", x.forget(), 11);
        due("15: gone", x.factTold(11, 0), -5);
        due("13: room again", x.know(5, 0, 60, 0), 11);
        due("15: the new one", x.factTold(11, 0), 5);
        for (int f = 11; f >= 0; f--) {
            due("14: " + f, x.forget(), f);
        }
        due("14: none", x.forget(), -3);
        CardNobodyReads y = tasted();
        due("14: it held", y.sets(), 48);
        due("14: no more", y.forget() * 1000 + y.sets(), 720);
        due("14: all fit again", x.sets(), 720);
    }

    private static void kind(int kind, int parts, int more, int want) {
        CardNobodyReads x = new CardNobodyReads();
        x.line(3, 10);
        x.line(4, 20);
        x.line(5, 30);
        String fact = "kind " + kind + ", parts " + parts + ", more " + more;
        due("32: " + fact, x.would(kind, 0, parts, more), want);
        due("32: changes nothing", x.count(2) * 1000 + x.sets(), 720);
        x.know(kind, 0, parts, more);
        due("16: " + fact, x.sets(), want);
    }

    private static void kinds() {
        kind(0, 0, 0, 720);
        kind(0, 63, 9, 720);
        kind(1, 3, 0, 48);
        kind(1, 1, 0, 0);
        kind(1, 7, 0, 0);
        kind(2, 1, 0, 240);
        kind(2, 3, 0, 48);
        kind(2, 7, 0, 0);
        kind(2, 0, 0, 720);
        kind(3, 7, 1, 576);
        kind(3, 7, 2, 144);
        kind(3, 7, 3, 0);
        kind(3, 3, 9, 48);
        kind(3, 63, 0, 720);
        kind(3, 0, 5, 720);
        kind(3, 7, 0, 720);
        kind(4, 1, 2, 120);
        kind(4, 0, 2, 0);
        kind(4, 0, 1, 720);
        kind(4, 3, 0, 48);
        kind(4, 1, 1, 0);
        kind(5, 1, 0, 480);
        kind(5, 63, 0, 0);
        kind(5, 0, 0, 720);
    }

    // ---- promises 16 to 21

    private static void whatFits() {
        CardNobodyReads x = tasted();
        CardNobodyReads none = clashing();
        due("16: sets", x.sets(), 48);
        due("16: none", none.sets(), 0);
        for (int sign = 0; sign < 6; sign++) {
            due("17: first " + sign, x.first(sign), sign);
            due("17: none fits", none.first(sign), -1);
            due("19: not sure", x.sure(sign), -1);
            due("19: none fits", none.sure(sign), -1);
            due("20: doubt " + sign, x.doubt(sign), sign < 2 ? 2 : 4);
            due("20: none fits", none.doubt(sign), 0);
            for (int part = 0; part < 6; part++) {
                int means = sign < 2 ? part < 2 ? 24 : 0 : part < 2 ? 0 : 12;
                due("18: means " + sign + " " + part, x.means(sign, part), means);
                due("18: none fits", none.means(sign, part), 0);
                due("21: odds above", x.odds(sign, part, 0), means == 0 ? 0 : 1);
                due("21: odds below", x.odds(sign, part, 1), means == 0 ? 1 : 48 / means);
                due("21: none fits", none.odds(sign, part, 0), NO);
            }
        }
        due("20: most", x.doubt(-1), 2);
        due("20: none fits", none.doubt(-1), 0);
        for (int bad : new int[] {-1, 6, LEAST, MOST}) {
            due("17: " + bad, x.first(bad), -5);
            due("17: no sign ahead of none", none.first(bad), -5);
            due("18: sign " + bad, x.means(bad, 0), -5);
            due("18: part " + bad, x.means(0, bad), -5);
            due("19: " + bad, x.sure(bad), -5);
            due("19: no sign ahead of none", none.sure(bad), -5);
            due("21: sign " + bad, x.odds(bad, 0, 0), NO);
            due("21: part " + bad, x.odds(0, bad, 0), NO);
            due("21: p " + bad, x.odds(0, 0, bad), NO);
        }
        due("20: -2", x.doubt(-2), -5);
        due("20: 6", x.doubt(6), -5);
        due("21: p 2", x.odds(0, 0, 2), NO);
        x.know(1, 1, 32, 0);
        x.know(2, 2, 2, 0);
        due("16: sets", x.sets(), 6);
        int[] sure = {1, 0, 5, -1, -1, -1};
        int[] first = {1, 0, 5, 2, 3, 4};
        for (int sign = 0; sign < 6; sign++) {
            due("17: first " + sign, x.first(sign), first[sign]);
            due("19: sure " + sign, x.sure(sign), sure[sign]);
            due("20: doubt " + sign, x.doubt(sign), sure[sign] < 0 ? 3 : 1);
        }
        due("20: most", x.doubt(-1), 3);
        due("21: sure", x.odds(2, 5, 0) * 10 + x.odds(2, 5, 1), 11);
        due("16: by the price", byPrice(40) * 10000 + byPrice(50), 7200360);
    }

    /** A law by which a dear line may not have all. */
    private static int byPrice(int price) {
        CardNobodyReads x = new CardNobodyReads();
        x.line(1, 1);
        text(x, "may price<50 or parts<8;likes 1;learns 1;");
        x.force(1);
        x.sets();
        x.set(0, price);
        return x.sets();
    }

    // ---- promises 22 and 23

    private static void fraction(String told, long above, long below, long wantAbove, long wantBelow) {
        due(told + " above", above, wantAbove);
        due(told + " below", below, wantBelow);
    }

    private static void whatLinesHave() {
        CardNobodyReads x = tasted();
        CardNobodyReads none = clashing();
        fraction("22: part 0 in line 2", x.has(2, 1, 0), x.has(2, 1, 1), 1, 2);
        fraction("22: parts 0, 2 in line 2", x.has(2, 5, 0), x.has(2, 5, 1), 1, 8);
        fraction("22: parts 0, 1 in line 2", x.has(2, 3, 0), x.has(2, 3, 1), 0, 1);
        fraction("22: parts 0, 1 in line 0", x.has(0, 3, 0), x.has(0, 3, 1), 1, 1);
        fraction("22: no parts", x.has(1, 0, 0), x.has(1, 0, 1), 1, 1);
        x.know(5, 2, 4, 0);
        fraction("22: of three", x.has(1, 8, 0), x.has(1, 8, 1), 1, 3);
        due("22: line 3", x.has(3, 1, 0), NO);
        due("22: line -1", x.has(-1, 1, 0), NO);
        due("22: parts 64", x.has(0, 64, 0), NO);
        due("22: parts -1", x.has(0, -1, 0), NO);
        due("22: p 2", x.has(0, 1, 2), NO);
        due("22: p -1", x.has(0, 1, -1), NO);
        due("22: none fits", none.has(0, 1, 1), NO);

        CardNobodyReads y = tasted();
        int[] all = {3, 0, 0};
        int[] any = {3, 60, 63};
        for (int l = 0; l < 3; l++) {
            due("23: all " + l, y.partsOfLine(l, 0), all[l]);
            due("23: any " + l, y.partsOfLine(l, 1), any[l]);
            due("23: none fits", none.partsOfLine(l, l % 2), -1);
        }
        y.know(1, 1, 16, 0);
        due("23: part of a line for sure", y.partsOfLine(2, 0), 16);
        due("23: and perhaps", y.partsOfLine(2, 1), 19);
        due("23: no line", y.partsOfLine(3, 0), -5);
        due("23: no line ahead of what", y.partsOfLine(-1, 2), -5);
        due("23: what 2", y.partsOfLine(0, 2), -7);
        due("23: what -1 ahead of none", none.partsOfLine(0, -1), -7);
    }

    // ---- promises 24 and 25

    private static void safety() {
        CardNobodyReads x = withGuests();
        CardNobodyReads none = clashing();
        int[] safe = {1, 2, 7, 0};
        for (int g = 0; g < 4; g++) {
            due("24: safe " + g, x.safe(g), safe[g]);
            due("24: none fits", none.safe(g), 0);
        }
        due("24: guest 4", x.safe(4), -5);
        due("24: guest -1", x.safe(-1), -5);
        fraction("25: 0 of 1", x.risk(0, 1, 0), x.risk(0, 1, 1), 1, 4);
        fraction("25: 1 of 2", x.risk(1, 2, 0), x.risk(1, 2, 1), 1, 2);
        fraction("25: 1 of 0", x.risk(1, 0, 0), x.risk(1, 0, 1), 1, 1);
        fraction("25: 0 of 0", x.risk(0, 0, 0), x.risk(0, 0, 1), 0, 1);
        fraction("25: 2 of 2", x.risk(2, 2, 0), x.risk(2, 2, 1), 0, 1);
        due("25: guest 4", x.risk(4, 0, 0), NO);
        due("25: guest -1", x.risk(-1, 0, 0), NO);
        due("25: line 3", x.risk(0, 3, 0), NO);
        due("25: line -1", x.risk(0, -1, 0), NO);
        due("25: p 2", x.risk(0, 0, 2), NO);
        due("25: p -1", x.risk(0, 0, -1), NO);
        due("25: none fits", none.risk(0, 0, 0), NO);
        CardNobodyReads y = tasted();
        y.guest(10);
        fraction("25: anything of two", y.risk(0, 2, 0), y.risk(0, 2, 1), 5, 8);
    }

    // ---- promises 26 and 27

    private static void orders(String told, CardNobodyReads x, int[] lines, int liking, int prices) {
        for (int g = 0; g < lines.length; g++) {
            due("26: " + told + ", guest " + g, x.order(g), lines[g]);
        }
        due("27: " + told + ", liking", x.ordered(0), liking);
        due("27: " + told + ", prices", x.ordered(1), prices);
    }

    private static void tonight() {
        CardNobodyReads x = withGuests();
        orders("coin enough", x, new int[] {0, 1, 0, -1}, 5520, 40);
        x.pays(40);
        orders("just enough", x, new int[] {0, 1, 0, -1}, 5520, 40);
        x.pays(39);
        orders("not enough for all", x, new int[] {0, -1, 0, -1}, 4032, 20);
        x.pays(19);
        orders("for one, none first", x, new int[] {-1, -1, 0, -1}, 2016, 10);
        x.pays(9);
        orders("for none", x, new int[] {-1, -1, -1, -1}, 0, 0);
        x.pays(0);
        orders("no coin", x, new int[] {-1, -1, -1, -1}, 0, 0);
        orders("none fits", clashing(), new int[] {-1, -1, -1, -1}, 0, 0);
        due("26: guest 4", x.order(4), -5);
        due("26: guest -1", x.order(-1), -5);
        due("27: what 2", x.ordered(2), -2);
        due("27: what -1", x.ordered(-1), -2);
        orders("no guests", tasted(), new int[0], 0, 0);
        due("27: asked first", withGuests().ordered(0), 5520);
        due("27: asked first", withGuests().ordered(1), 40);
        CardNobodyReads one = withGuests();
        for (int l = 3; l < 6; l++) {
            one.line(1 << l, 10);
            one.know(1, l, 1 << l, 0);
        }
        one.know(2, 2, 1, 0);
        due("16: one alone", one.sets(), 1);
        // likes 42 31 22 41 41 41, safe for guest 0 all but 1 and 2, for guest 1 all but 0 and 2
        orders("one fits", one, new int[] {0, 3, 0, -1}, 42 + 41 + 42, 30);
        due("28: one fits", one.middle(63), 125);
        due("29: one fits", one.taste(0) * 1000 + one.taste(1), 719);

        CardNobodyReads y = withGuests();
        text(y, "may 1;likes guest*10+place+left-48;learns 1;");
        y.force(1);
        // 48 fit: likes 10 g + place
        orders("by guest and left", y, new int[] {-1, 1, 2, -1}, 48 * 11 + 48 * 22, 50);
        y.set(2, 90);
        orders("a dear line", y, new int[] {-1, 1, 1, -1}, 48 * 32, 40);
        y.set(2, 30);
        text(y, "may 1;likes 0;learns 1;");
        y.force(2);
        orders("nothing liked", y, new int[] {-1, -1, -1, -1}, 0, 0);
        text(y, "may 1;likes (guest=2)*5;learns 1;");
        y.force(3);
        orders("of like lines the first", y, new int[] {-1, -1, 0, -1}, 240, 10);
        text(y, "may 1;likes parts;learns 1;");
        y.force(4);
        // line 0: 3; line 1: 4, 8, 16, 32 a quarter each; line 2: 1 or 2 more
        orders("by parts", y, new int[] {0, 1, 2, -1}, 48 * 3 + 12 * 60 + 12 * 60 + 24 * 3, 60);
    }

    // ---- promise 28

    private static void middle() {
        CardNobodyReads x = withGuests();
        due("28: all", x.middle(7), 5520);
        due("28: line 0", x.middle(1), 4032);
        due("28: line 1", x.middle(2), 2976);
        due("28: line 2", x.middle(4), 1056);
        due("28: lines 0, 2", x.middle(5), 4032);
        due("28: lines 1, 2", x.middle(6), 2976);
        due("28: no lines", x.middle(0), 0);
        due("28: line 3", x.middle(8), -2);
        due("28: -1", x.middle(-1), -2);
        due("28: far", x.middle(LEAST), -2);
        x.pays(0);
        due("28: coin does not matter", x.middle(7), 5520);
        due("28: none fits", clashing().middle(7), 0);
        due("28: no guests", tasted().middle(7), 0);
        due("28: none at all", new CardNobodyReads().middle(0), 0);
        due("28: none at all", new CardNobodyReads().middle(1), -2);
    }

    // ---- promises 29 to 31

    private static void taste() {
        CardNobodyReads x = tasted();
        due("29: line", x.taste(0), 2);
        due("29: much", x.taste(1), 714 * 48);
        due("29: what 2", x.taste(2), -2);
        due("29: what -1", x.taste(-1), -2);
        CardNobodyReads empty = new CardNobodyReads();
        due("29: no lines", empty.taste(0), -1);
        due("29: no lines", empty.taste(1), 0);
        CardNobodyReads none = clashing();
        due("29: none fits", none.taste(0), 0);
        due("29: none fits", none.taste(1), 0);
        text(x, "may 1;likes 1;learns 5-guest;");
        x.force(1);
        due("29: the first of like ones", x.taste(0), 0);
        due("29: and how much", x.taste(1), 240);
        text(x, "may 1;likes 1;learns left*price;");
        x.force(2);
        // left: line 0 48, line 1 12, line 2 6
        due("29: by left", x.taste(0), 0);
        due("29: by left", x.taste(1), 480 * 48);
        text(x, "may 1;likes 1;learns parts-3;");
        x.force(3);
        due("29: by parts", x.taste(0), 2);
        due("29: by parts", x.taste(1), 6 * (2 + 3 + 6 + 7 + 14 + 15 + 30 + 31));
    }

    private static void two() {
        CardNobodyReads x = tasted();
        due("30: lines", x.two(0), 2);
        due("30: squares", x.two(1), 288);
        due("30: what 2", x.two(2), -2);
        due("30: what -1", x.two(-1), -2);
        x.line(8, 5);
        // lines 2, 3: sign 0's part, sign 2's, sign 3's: 2 * 4 * 3 of 2 each
        due("30: lines", x.two(0), 23);
        due("30: squares", x.two(1), 96);
        CardNobodyReads none = clashing();
        due("30: none fits", none.two(0), 1);
        due("30: none fits", none.two(1), 0);
        CardNobodyReads one = new CardNobodyReads();
        one.line(1, 1);
        due("30: one line", one.two(0), -1);
        due("30: one line", one.two(1), 0);
        one.line(1, 1);
        due("30: the same line twice", one.two(0), 1);
        due("30: the same line twice", one.two(1), 6 * 120 * 120);
    }

    private static void ask() {
        CardNobodyReads x = tasted();
        due("31: line and part", x.ask(0), 20);
        due("31: how much", x.ask(1), 24);
        due("31: what 2", x.ask(2), -2);
        due("31: what -1", x.ask(-1), -2);
        x.know(1, 2, 17, 0);
        due("31: nothing left to ask", x.ask(0), 0);
        due("31: how much", x.ask(1), 0);
        x.line(8, 5);
        due("31: sign 3", x.ask(0), 32);
        due("31: a third", x.ask(1), 2);
        CardNobodyReads none = clashing();
        due("31: none fits", none.ask(0), 0);
        due("31: none fits", none.ask(1), 0);
        CardNobodyReads empty = new CardNobodyReads();
        due("31: no lines", empty.ask(0), -1);
        due("31: no lines", empty.ask(1), 0);
        CardNobodyReads y = new CardNobodyReads();
        y.line(7, 5);
        y.know(2, 0, 3, 0);
        // parts 0 and 1 are in it; each other one in a quarter
        due("31: part 2", y.ask(0), 2);
        due("31: a quarter", y.ask(1), 36);
    }

    // ---- promises 32 to 34

    private static void would() {
        CardNobodyReads x = tasted();
        due("32: sign 2", x.would(1, 1, 4, 0), 12);
        due("32: nothing new", x.would(0, 2, 63, 9), 48);
        due("32: seen", x.would(2, 2, 1, 0), 24);
        due("32: guessed", x.would(3, 2, 5, 1), 30);
        due("32: shared", x.would(4, 0, 1, 2), 24);
        due("32: shared with no line", x.would(4, 0, 1, 3), -2);
        due("32: safe", x.would(5, 2, 12, 0), 24);
        due("32: none", x.would(1, 0, 5, 0), 0);
        due("32: none fits", clashing().would(0, 0, 0, 0), 0);
        due("32: changes nothing", x.count(2) * 1000 + x.sets(), 1048);
        due("32: no lines", new CardNobodyReads().would(0, 0, 0, 0), -2);
    }

    private static void clashAndIdle() {
        CardNobodyReads x = clashing();
        due("33: either of two", x.clash(), 6);
        due("34: the other", x.idle(), 1);
        x.know(1, 1, 16, 0);
        due("33: not one alone", x.clash(), 0);
        due("34: all then", x.idle(), 15);
        CardNobodyReads y = tasted();
        due("33: any fits", y.clash(), 0);
        due("34: it tells", y.idle(), 0);
        y.know(2, 0, 1, 0);
        due("34: the weaker one is idle", y.idle(), 2);
        due("33: any fits", y.clash(), 0);
        y.know(1, 0, 3, 0);
        due("34: of the same twice each", y.idle(), 7);
        y.know(5, 0, 1, 0);
        due("33: three against one", y.clash(), 8);
        due("34: three against one", y.idle(), 7);
        CardNobodyReads law = tasted();
        text(law, "may 0;likes 1;learns 1;");
        law.force(1);
        due("33: by the law", law.clash(), 0);
        due("34: by the law", law.idle(), 1);
        due("34: no facts", new CardNobodyReads().idle(), 0);
        due("33: no facts", new CardNobodyReads().clash(), 0);
    }

    // ---- promises 35 to 38

    private static void bills(CardNobodyReads x, int n, int sum, int ways, int all, int any) {
        String told = "35: " + n + " of " + sum;
        due(told, x.bill(n, sum, 0), ways);
        due(told + ", in all", x.bill(n, sum, 1), all);
        due(told + ", in any", x.bill(n, sum, 2), any);
    }

    private static void bill() {
        CardNobodyReads x = tasted();
        x.line(8, 20);
        bills(x, 2, 30, 2, 1, 11);
        bills(x, 2, 50, 2, 4, 14);
        bills(x, 1, 20, 2, 0, 10);
        bills(x, 1, 30, 1, 4, 4);
        bills(x, 4, 80, 1, 15, 15);
        bills(x, 0, 0, 1, 0, 0);
        bills(x, 0, 1, 0, 0, 0);
        bills(x, 2, 31, 0, 0, 0);
        bills(x, 5, 80, 0, 0, 0);
        bills(x, 10, 999, 0, 0, 0);
        due("35: n -1", x.bill(-1, 0, 0), -2);
        due("35: n 11", x.bill(11, 0, 0), -2);
        due("35: sum -1", x.bill(0, -1, 0), -2);
        due("35: sum 1000", x.bill(0, 1000, 0), -2);
        due("35: what 3", x.bill(0, 0, 3), -2);
        due("35: what -1", x.bill(0, 0, -1), -2);
        bills(new CardNobodyReads(), 0, 0, 1, 0, 0);
        CardNobodyReads y = new CardNobodyReads();
        for (int l = 0; l < 10; l++) {
            y.line(1, 99);
        }
        bills(y, 10, 990, 1, 1023, 1023);
        bills(y, 5, 495, 252, 0, 1023);
    }

    private static void match() {
        CardNobodyReads x = tasted();
        due("36: sheet 4", x.match(4), -2);
        due("36: sheet -1", x.match(-1), -2);
        due("36: missing", x.match(0), -11);
        x.sheet(0, 2, 2);
        due("36: too small", x.match(0), -2);
        x.sheet(0, 2, 4);
        due("36: too large", x.match(0), -2);
        for (int sort = 0; sort < 3; sort++) {
            x.sheet(0, sort, 3);
            due("36: all 0", x.match(0), 0);
            x.cell(0, 0, 3);
            x.cell(0, 1, 32);
            x.cell(0, 2, 34);
            due("36: so in some", x.match(0), 6);
            x.cell(0, 2, 36);
            due("36: so in none", x.match(0), 0);
            x.cell(0, 2, 34 + 65536);
            due("36: cut by the sort", x.match(0), sort == 2 ? 0 : 6);
            x.cell(0, 2, 34 + 256);
            due("36: cut by the sort", x.match(0), sort == 0 ? 6 : 0);
        }
        CardNobodyReads none = clashing();
        none.sheet(1, 0, 3);
        due("36: none fits", none.match(1), 0);
        CardNobodyReads empty = new CardNobodyReads();
        empty.sheet(3, 1, 0);
        due("36: no lines", empty.match(3), 720);
    }

    private static void film() {
        CardNobodyReads x = tasted();
        x.know(2, 2, 2, 0);
        x.know(5, 1, 12, 0);
        // the first that fits: sign 0 part 1, sign 1 part 0, sign 2 part 4
        due("37: sheet 4", x.film(4), -2);
        due("37: sheet -1", x.film(-1), -2);
        due("37: missing became", x.film(0), 3);
        due("37: ints", x.linesBy(0, 2, 0, 0), 0);
        due("37: of its size", x.match(0), 6);
        x.sheet(1, 2, 3);
        x.cell(1, 0, 3);
        x.cell(1, 1, 16);
        x.cell(1, 2, 18);
        due("36: the same by hand", x.match(1), 6);
        x.sheet(2, 0, 9);
        due("37: bytes became ints", x.film(2) * 100 + x.linesBy(2, 2, 0, 0), 300);
        CardNobodyReads none = clashing();
        none.sheet(2, 1, 5);
        due("37: none fits", none.film(2), -3);
        due("37: sheet ahead of none", none.film(5), -2);
        due("37: stays", none.cell(2, 4, 1), 1);
        due("37: missing stays", none.film(3) * 100 + none.cell(3, 0, 0), -311);
        CardNobodyReads empty = new CardNobodyReads();
        due("37: no lines", empty.film(1), 0);
        due("37: no lines", empty.match(1), 720);
    }

    private static void whichLaws() {
        CardNobodyReads x = tasted();
        text(x, "may 0;likes 1;learns 1;");
        text(x, "may not place=1 or parts=32;likes 1;learns 1;");
        text(x, "may price<30;likes 1;learns 1;");
        due("38: laws", x.laws(), 5);
        due("38: changes nothing", x.count(5) * 1000 + x.sets(), 48);
        x.set(2, 29);
        due("38: by the price", x.laws(), 13);
        x.force(1);
        due("38: whatever the law is", x.laws(), 13);
        due("38: none fits by it", x.sets(), 0);
        x.know(1, 1, 4, 0);
        due("38: by the facts", x.laws(), 9);
        due("38: none", clashing().laws(), 0);
        due("38: one", new CardNobodyReads().laws(), 1);
    }

    // ---- promises 39 and 40

    private static void drawn() {
        CardNobodyReads x = new CardNobodyReads();
        int[] by0 = {0, 2, 3, 1, 5, 4};
        int[] by99999 = {1, 2, 0, 4, 3, 5};
        for (int sign = 0; sign < 6; sign++) {
            due("39: seed 0", x.drawn(0, sign), by0[sign]);
            due("39: seed 99999", x.drawn(99999, sign), by99999[sign]);
        }
        due("39: seed -1", x.drawn(-1, 0), -2);
        due("39: seed 100000", x.drawn(100000, 0), -2);
        due("39: sign 6", x.drawn(0, 6), -2);
        due("39: sign -1", x.drawn(0, -1), -2);
        CardNobodyReads none = clashing();
        due("39: none fits", none.drawn(0, 0), -1);
        due("39: bad ahead of none", none.drawn(0, 6), -2);
        CardNobodyReads y = tasted();
        // 48271 modulo 48 is 31: of those with sign 0 part 1 number 7
        int[] of48 = {1, 0, 3, 2, 5, 4};
        for (int sign = 0; sign < 6; sign++) {
            due("39: of 48", y.drawn(0, sign), of48[sign]);
        }
    }

    private static void chance() {
        CardNobodyReads x = new CardNobodyReads();
        x.line(1, 1);
        x.guest(2);
        x.guest(0);
        x.guest(63);
        fraction("40: by 99999", x.chance(0, 0, 99999, 1, 0), x.chance(0, 0, 99999, 1, 1), 1, 1);
        fraction("40: by 0", x.chance(0, 0, 0, 1, 0), x.chance(0, 0, 0, 1, 1), 0, 1);
        fraction("40: nothing shunned", x.chance(1, 0, 0, 30, 0), x.chance(1, 0, 0, 30, 1), 0, 1);
        fraction("40: all shunned", x.chance(2, 0, 99999, 30, 0), x.chance(2, 0, 99999, 30, 1), 1, 1);
        for (int seed : new int[] {0, 500, 99970}) {
            int shunned = 0;
            for (int i = 0; i < 30; i++) {
                shunned += x.drawn(seed + i, 0) == 1 ? 1 : 0;
                long above = x.chance(0, 0, seed, i + 1, 0);
                long below = x.chance(0, 0, seed, i + 1, 1);
                due("40: as drawn by " + seed + " and on", above * (i + 1), shunned * below);
                due("40: in lowest terms", shares(above, below), 0);
            }
        }
        due("40: guest 3", x.chance(3, 0, 0, 1, 0), NO);
        due("40: guest -1", x.chance(-1, 0, 0, 1, 0), NO);
        due("40: line 1", x.chance(0, 1, 0, 1, 0), NO);
        due("40: line -1", x.chance(0, -1, 0, 1, 0), NO);
        due("40: seed -1", x.chance(0, 0, -1, 1, 0), NO);
        due("40: seed 100000", x.chance(0, 0, 100000, 1, 0), NO);
        due("40: no seeds", x.chance(0, 0, 0, 0, 0), NO);
        due("40: 31 seeds", x.chance(0, 0, 0, 31, 0), NO);
        due("40: p 2", x.chance(0, 0, 0, 1, 2), NO);
        due("40: p -1", x.chance(0, 0, 0, 1, -1), NO);
        due("40: none fits", clashing().chance(0, 0, 0, 1, 0), NO);
    }

    private static int shares(long above, long below) {
        for (int d = 2; d <= below; d++) {
            if (above % d == 0 && below % d == 0) {
                return d;
            }
        }
        return 0;
    }

    // ---- promises 41 and 42

    private static void image() {
        CardNobodyReads x = withGuests();
        due("42: none", x.back(), -3);
        text(x, "may 0;likes 1;learns 1;");
        due("41: kept", x.image(), 3);
        x.line(8, 40);
        x.set(0, 77);
        x.pays(5);
        x.force(1);
        x.know(1, 1, 4, 0);
        x.sets();
        text(x, "may 1;likes 1;learns 1;");
        x.feed(2, 1, 2, 3, 4, 5);
        x.sheet(0, 0, 4);
        due("42: back", x.back(), 3);
        int[] now = {3, 4, 1, 100, 3, 0, 2};
        for (int what = 0; what < 7; what++) {
            due("42: count " + what, x.count(what), now[what]);
        }
        due("42: price", x.lineTold(0, 1), 10);
        due("42: the line is gone", x.lineTold(3, 0), -5);
        due("42: the fact is gone", x.factTold(1, 0), -5);
        due("42: fits again", x.sets(), 48);
        due("42: sheets stay", x.cell(0, 3, 1), 1);
        due("42: a new line is new", x.line(16, 9), 3);
        due("42: its signs", x.lineTold(3, 0), 16);
        due("42: its price", x.lineTold(3, 1), 9);
        due("42: what it has", x.would(1, 3, 4, 0), 12);
        due("42: the image stays", x.back(), 3);
        due("41: another", x.line(16, 9) + x.image(), 7);
        due("42: to the other", x.back(), 4);
        due("14: the image has it", x.forget(), 0);
        due("42: none any more", x.back(), -3);

        CardNobodyReads y = tasted();
        y.image();
        y.guest(1);
        y.know(0, 0, 0, 0);
        due("14: the image has not", y.forget(), 1);
        due("42: it is there", y.back(), 3);
        due("42: the guest is gone", y.count(1), 0);
        due("14: the image has it", y.forget(), 0);
        due("13: another", y.know(1, 0, 3, 0), 0);
        due("42: none any more", y.back(), -3);
        due("41: no facts", y.forget() * 100 + y.image(), 3);
        y.know(1, 0, 3, 0);
        y.forget();
        due("42: it is there", y.back(), 3);
        text(y, "may 1;likes 1;learns 1;");
        y.force(1);
        y.image();
        y.force(0);
        due("42: the law", y.back() * 10 + y.count(5), 31);
        CardNobodyReads z = new CardNobodyReads();
        due("41: nothing", z.image(), 0);
        z.line(1, 1);
        z.guest(1);
        due("42: nothing", z.back(), 0);
        due("42: no lines", z.count(0), 0);
        due("42: no guests", z.count(1), 0);
    }

    // ---- promises 43 and 44

    private static void sheets() {
        CardNobodyReads x = new CardNobodyReads();
        for (int s = 0; s < 4; s++) {
            due("43: missing at first", x.cell(s, 0, 0), -11);
        }
        due("43: sheet 4", x.sheet(4, 0, 1), -2);
        due("43: sheet -1", x.sheet(-1, 0, 1), -2);
        due("43: sort 3", x.sheet(0, 3, 1), -2);
        due("43: sort -2", x.sheet(0, -2, 1), -2);
        due("43: n 41", x.sheet(0, 0, 41), -2);
        due("43: n -1", x.sheet(0, 0, -1), -14);
        due("43: far below", x.sheet(3, 2, LEAST), -14);
        due("43: sort ahead of n", x.sheet(0, 3, -1), -2);
        due("43: nothing became", x.cell(0, 0, 0), -11);
        due("43: 40", x.sheet(0, 0, 40), 1);
        due("44: the last", x.cell(0, 39, 1), 1);
        due("44: behind it", x.cell(0, 40, 1), -12);
        due("44: -1", x.cell(0, -1, 1), -12);
        due("44: far", x.cell(0, MOST, 1), -12);
        due("44: far below", x.cell(0, LEAST, 1), -12);
        due("44: sheet 4", x.cell(4, 0, 1), -2);
        due("44: sheet -1 ahead of the place", x.cell(-1, -1, 1), -2);
        due("44: the next one is not there", x.cell(1, -1, 0), -11);
        due("43: none", x.sheet(0, 0, 0), 1);
        due("44: no place", x.cell(0, 0, 1), -12);
        due("43: missing, n does not matter", x.sheet(0, -1, 41), 1);
        due("43: missing", x.cell(0, 0, 1), -11);
        due("43: missing once more", x.sheet(0, -1, LEAST), 1);
        x.sheet(1, 2, 2);
        x.cell(1, 0, 7);
        x.cell(1, 1, 50);
        due("43: as written", x.linesBy(1, 2, 0, 1), 1);
        x.sheet(1, 2, 2);
        due("43: all 0 again", x.linesBy(1, 2, 0, 1), 0);
        x.cell(1, 0, 7);
        due("43: the price, too", x.linesBy(1, 2, 0, 1), 0);
        x.cell(1, 1, 50);
        x.sheet(1, 2, 2);
        x.cell(1, 1, 50);
        due("43: the signs, too", x.linesBy(1, 2, 0, 1), 0);
        x.sheet(0, 0, 40);
        x.cell(0, 38, 7);
        x.cell(0, 39, 50);
        due("43: the last two", x.linesBy(0, 0, 38, 1), 1);
        x.sheet(0, 0, 40);
        x.cell(0, 38, 7);
        due("43: the last one 0 again", x.linesBy(0, 0, 38, 1), 0);
        cut();
    }

    private static void cut() {
        int[] values = {7, 263, 65543, -249, 7 - 65536};
        int[][] came = {{1, 1, 1}, {1, 0, 0}, {1, 1, 0}, {1, 0, 0}, {1, 1, 0}};
        for (int i = 0; i < values.length; i++) {
            for (int sort = 0; sort < 3; sort++) {
                CardNobodyReads x = new CardNobodyReads();
                x.sheet(0, sort, 2);
                x.cell(0, 0, values[i]);
                x.cell(0, 1, 5);
                due("44: " + values[i] + " of sort " + sort, x.linesBy(0, sort, 0, 1), came[i][sort]);
            }
        }
    }

    // ---- promise 45

    /** The numbers of a sheet, by what their lines would cost. */
    private static void holds(String told, CardNobodyReads x, int s, int... want) {
        for (int i = 0; i < want.length; i++) {
            CardNobodyReads probe = x;
            probe.image();
            int before = probe.count(0);
            probe.sheet(3, 2, 2);
            probe.cell(3, 0, 1);
            due(told + " copied", probe.copy(s, i, 3, 1, 1), 1);
            int came = probe.linesBy(3, 2, 0, 1);
            due(told + " at " + i, came == 1 ? probe.lineTold(before, 1) : 0, want[i]);
            probe.back();
        }
    }

    private static void copies() {
        CardNobodyReads x = new CardNobodyReads();
        x.sheet(0, 2, 5);
        x.sheet(1, 2, 3);
        x.sheet(2, 1, 3);
        for (int i = 0; i < 5; i++) {
            x.cell(0, i, i + 1);
        }
        due("45: all of it", x.copy(0, 2, 1, 0, 3), 3);
        holds("45: came", x, 1, 3, 4, 5);
        holds("45: stayed", x, 0, 1, 2, 3, 4, 5);
        due("45: on itself, ahead", x.copy(0, 0, 0, 1, 4), 4);
        holds("45: as they were", x, 0, 1, 1, 2, 3, 4);
        due("45: on itself, behind", x.copy(0, 2, 0, 0, 3), 3);
        holds("45: as they were", x, 0, 2, 3, 4, 3, 4);
        due("45: none", x.copy(0, 5, 1, 3, 0), 0);
        due("45: none, from behind", x.copy(0, 6, 1, 3, 0), -12);
        due("45: none, to behind", x.copy(0, 5, 1, 4, 0), -12);
        due("45: too many to take", x.copy(0, 3, 1, 0, 3), -12);
        due("45: too many to put", x.copy(0, 0, 1, 1, 3), -12);
        due("45: n -1", x.copy(0, 0, 1, 0, -1), -12);
        due("45: from -1", x.copy(0, -1, 1, 0, 1), -12);
        due("45: to -1", x.copy(0, 0, 1, -1, 1), -12);
        due("45: far", x.copy(0, MOST, 1, 0, 1), -12);
        due("45: far", x.copy(0, 1, 1, 1, MOST), -12);
        due("45: far", x.copy(0, 1, 1, 1, LEAST), -12);
        due("45: far", x.copy(0, 0, 1, MOST, 2), -12);
        due("45: unlike sorts", x.copy(0, 0, 2, 0, 1), -13);
        due("45: unlike sorts ahead of places", x.copy(0, 9, 2, 0, 1), -13);
        due("45: sheet 4", x.copy(4, 0, 0, 0, 1), -2);
        due("45: to sheet 4", x.copy(0, 0, 4, 0, 1), -2);
        due("45: sheet -1", x.copy(-1, 0, 0, 0, 1), -2);
        x.sheet(3, -1, 0);
        due("45: from nothing", x.copy(3, 0, 0, 0, 1), -11);
        due("45: to nothing", x.copy(0, 0, 3, 0, 1), -11);
        due("45: nothing ahead of places", x.copy(3, -9, 0, 0, 1), -11);
        due("45: sheets ahead of nothing", x.copy(3, 0, 4, 0, 1), -2);
        holds("45: nothing changed", x, 0, 2, 3, 4, 3, 4);
    }

    // ---- promise 46

    private static void linesBy() {
        CardNobodyReads x = new CardNobodyReads();
        int[] row = {9, 5, 51, 15, 1, 6, 7, 99, 8};
        for (int sort = 0; sort < 3; sort++) {
            x.sheet(sort, sort, row.length);
            for (int i = 0; i < row.length; i++) {
                x.cell(sort, i, row[i]);
            }
        }
        due("46: sheet 4", x.linesBy(4, 0, 0, 1), -2);
        due("46: sheet -1", x.linesBy(-1, 0, 0, 1), -2);
        due("46: sort 3", x.linesBy(0, 3, 0, 1), -2);
        due("46: sort -1", x.linesBy(0, -1, 0, 1), -2);
        due("46: n 11", x.linesBy(0, 0, 0, 11), -2);
        due("46: n -1", x.linesBy(0, 0, 0, -1), -2);
        due("46: sort -1 of a missing one", x.linesBy(3, -1, 0, 1), -2);
        due("46: missing", x.linesBy(3, 0, 0, 1), -11);
        due("46: of another sort", x.linesBy(0, 1, 0, 1), -13);
        due("46: another sort ahead of places", x.linesBy(0, 1, -1, 1), -13);
        due("46: none", x.linesBy(0, 0, 0, 0), 0);
        due("46: -1", x.linesBy(0, 0, -1, 1), -12);
        due("46: -2", x.linesBy(0, 0, -2, 2), -12);
        due("46: behind", x.linesBy(0, 0, 9, 1), -12);
        due("46: half behind", x.linesBy(0, 0, 8, 1), -12);
        due("46: far", x.linesBy(0, 0, MOST, 2), -12);
        due("46: far", x.linesBy(0, 0, MOST - 1, 10), -12);
        due("46: far below", x.linesBy(0, 0, LEAST, 2), -12);
        due("46: none came", x.count(0), 0);
        due("46: two, one left out", x.linesBy(0, 0, 0, 3), 2);
        due("46: signs", x.lineTold(0, 0) * 1000 + x.lineTold(1, 0), 9001);
        due("46: prices", x.lineTold(0, 1) * 1000 + x.lineTold(1, 1), 5006);
        due("46: what stood ahead came", x.linesBy(1, 1, 6, 2), -12);
        due("46: what stood ahead came", x.count(0) * 1000 + x.lineTold(2, 1), 3099);
        due("46: from an odd place", x.linesBy(2, 2, 7, 1), 0);
        due("46: from an odd place", x.linesBy(2, 2, 1, 1), 1);
        due("46: signs", x.lineTold(3, 0), 5);
        for (int l = 4; l < 9; l++) {
            x.line(1, 1);
        }
        due("46: room for one", x.linesBy(0, 0, 0, 4), 1);
        due("46: room for none", x.linesBy(0, 0, 0, 4), 0);
        due("46: ten", x.count(0), 10);
        due("46: no room, and outside", x.linesBy(0, 0, 0, 5), -12);
        CardNobodyReads y = tasted();
        y.sets();
        y.sheet(0, 0, 2);
        y.cell(0, 0, 8);
        y.cell(0, 1, 9);
        due("46: it tells on what fits", y.linesBy(0, 0, 0, 1) * 1000 + y.would(1, 3, 4, 0), 1012);
    }

    // ---- promise 47

    private static void taken() {
        CardNobodyReads x = tasted();
        x.forget();
        for (int kind = 0; kind < 6; kind++) {
            x.know(kind, 2, 5, 1);
        }
        int[][] also = {{0}, {0, 1}, {0, 2}, {0, 2, 3}, {0, 1, 4}, {0, 2, 5}};
        for (int f = 0; f < 6; f++) {
            for (int kind = 0; kind < 7; kind++) {
                int wanted = kind;
                boolean is = Arrays.stream(also[f]).anyMatch(k -> k == wanted);
                due("47: kind " + f + " for " + kind, x.taken(10 + f, kind), is ? f : -13);
            }
        }
        int[] signs = {3, 4, 5};
        for (int l = 0; l < 3; l++) {
            for (int kind = 0; kind < 7; kind++) {
                due("47: line " + l + " for " + kind, x.taken(l, kind), kind == 6 ? signs[l] : -13);
            }
        }
        for (int i : new int[] {3, 9, 16, 21}) {
            due("47: nothing at " + i, x.taken(i, 6), -11);
            due("47: nothing at " + i, x.taken(i, 0), -11);
        }
        for (int i : new int[] {-1, 22, LEAST, MOST}) {
            due("47: outside at " + i, x.taken(i, 0), -12);
            due("47: kind ahead of outside", x.taken(i, 7), -2);
        }
        due("47: kind 7", x.taken(0, 7), -2);
        due("47: kind -1", x.taken(10, -1), -2);
        due("47: kind ahead of nothing", x.taken(9, 7), -2);
        for (int l = 3; l < 10; l++) {
            x.line(32, 1);
        }
        for (int f = 6; f < 12; f++) {
            x.know(0, 0, 0, 0);
        }
        due("47: the last line", x.taken(9, 6), 32);
        due("47: the last fact", x.taken(21, 0), 11);
    }
}
