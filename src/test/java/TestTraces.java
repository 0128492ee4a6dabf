import java.util.ArrayList;
import java.util.List;

/** What is none any more (by back(), forget(), a fault, a sheet made anew), or stands beside, leaves no trace. */
public final class TestTraces {
    private TestTraces() {
    }

    private static void due(String call, long got, long want) {
        Check.due(call, got, want);
    }

    public static void main(String[] args) {
        linesThatWent();
        guestsThatWent();
        factsThatWent();
        factsForgotten();
        sharedWithALineThatWent();
        textsThatFaulted();
        sheetsBeside();
        signsBeside();
        Check.end();
    }

    /** Two lines, a guest and a fact; an image of them. */
    private static CardNobodyReads small() {
        CardNobodyReads x = Cards.blank();
        x.line(3, 10);
        x.line(4, 20);
        x.guest(4);
        x.know(1, 0, 3, 0);
        x.image();
        return x;
    }

    /** What is told of the tongues that fit, of tonight, of what to ask. */
    private static List<Long> told(CardNobodyReads x) {
        List<Long> all = new ArrayList<>();
        for (int what = 0; what < 7; what++) {
            all.add((long) x.count(what));
        }
        for (int what = 0; what < 2; what++) {
            all.add((long) x.ordered(what));
            all.add((long) x.taste(what));
            all.add((long) x.two(what));
            all.add((long) x.ask(what));
        }
        for (int g = 0; g < 4; g++) {
            all.add((long) x.order(g));
            all.add((long) x.safe(g));
        }
        for (int l = 0; l < 10; l++) {
            all.add((long) x.lineTold(l, 0));
            all.add((long) x.lineTold(l, 1));
            all.add((long) x.partsOfLine(l, 1));
            all.add(x.risk(0, l, 0));
        }
        all.add((long) x.middle(3));
        all.add((long) x.sets());
        all.add((long) x.clash());
        all.add((long) x.idle());
        all.add((long) x.bill(2, 30, 1));
        all.add((long) x.bill(1, 20, 2));
        all.add((long) x.would(4, 0, 0, 1));
        x.film(0);
        all.add((long) x.match(0));
        return all;
    }

    private static void alike(String told, CardNobodyReads x, CardNobodyReads other) {
        due(told, told(x).equals(told(other)) ? 1 : 0, 1);
    }

    private static void linesThatWent() {
        CardNobodyReads x = small();
        for (int l = 2; l < 10; l++) {
            x.line(56, 1);
        }
        told(x);
        due("42: two lines", x.back(), 2);
        alike("42: lines that went", x, small());
        due("42: a line that comes then is its own", x.line(8, 9), 2);
        CardNobodyReads other = small();
        other.line(8, 9);
        alike("42: a line that came in their place", x, other);
        due("36: 48 fit", x.sets(), 48);
        x.back();
        x.film(1);
        due("36: no line that went is asked about", x.match(1), 12);
    }

    private static void guestsThatWent() {
        CardNobodyReads x = small();
        x.guest(0);
        x.guest(0);
        x.guest(0);
        due("26: three more are served", x.ordered(1), 40);
        x.back();
        alike("42: guests that went", x, small());
        due("26: guest 0 alone is served", x.ordered(1), 10);
        due("27: LIKING of 42, 48 times", x.ordered(0), 48 * 42);
    }

    private static void factsThatWent() {
        CardNobodyReads x = small();
        x.know(1, 1, 4, 0);
        x.know(1, 1, 8, 0);
        due("33: facts 1 and 2", x.clash(), 6);
        due("16: none fits", x.sets(), 0);
        x.back();
        alike("42: facts that went", x, small());
        due("33: they do not clash now", x.clash(), 0);
    }

    private static void factsForgotten() {
        CardNobodyReads x = small();
        for (int more = 0; more < 9; more++) {
            x.know(5, 1, 63, 9);
            x.know(2, 1, 8, more);
            x.forget();
            x.forget();
        }
        alike("14: facts forgotten", x, small());
        due("13: a fact in their place", x.know(3, 1, 8, 7), 1);
        due("15: its kind", x.factTold(1, 0), 3);
        due("15: its parts", x.factTold(1, 2), 8);
        due("15: its more", x.factTold(1, 3), 7);
    }

    private static void sharedWithALineThatWent() {
        CardNobodyReads x = small();
        x.line(7, 30);
        due("13: shared with line 2", x.know(4, 0, 3, 2), 1);
        due("32: would be shared with it", x.would(4, 0, 3, 2), 48);
        x.back();
        due("13: line 2 is none", x.know(4, 0, 3, 2), -2);
        due("32: line 2 is none", x.would(4, 0, 3, 2), -2);
        due("13: other kinds may name it", x.know(3, 0, 3, 2), 1);
        CardNobodyReads other = small();
        other.know(3, 0, 3, 2);
        alike("42: nothing is shared with it", x, other);
    }

    /** The steps that a text took till its fault are not those of the next one, nor of any ahead of it. */
    private static void textsThatFaulted() {
        String[] faulty = {"may 1;likes 1;learns not 1 ?", "may not not 0;likes - 1;learns - - 1;?",
            "may 1;likes not 9;learns 9 * 9 ;;", "may 0 or 0;likes 0 and 0;learns 0 < 0;likes"};
        for (String text : faulty) {
            CardNobodyReads x = small();
            due("10: a fault in " + text, Cards.text(x, text) <= -100 ? 1 : 0, 1);
            due("10: a text behind it", Cards.text(x, "may 1;likes 5;learns 7;"), 1);
            due("10: a fault behind it", Cards.text(x, text) <= -100 ? 1 : 0, 1);
            due("11: the law", x.force(1), 0);
            due("12: may, behind " + text, x.asks(0, 0, 3, 0, 0), 1);
            due("12: likes, behind " + text, x.asks(1, 0, 3, 0, 0), 5);
            due("12: learns, behind " + text, x.asks(2, 0, 3, 0, 0), 7);
            due("16: what fits", x.sets(), 48);
            x.force(0);
            due("12: the first text stays", x.asks(1, 0, 3, 0, 0), 42);
        }
    }

    /** Numbers of one sheet are not those of the sheets beside it, whatever is done to it. */
    private static void sheetsBeside() {
        for (int s = 0; s < 4; s++) {
            CardNobodyReads x = Cards.blank();
            for (int other = 0; other < 4; other++) {
                x.sheet(other, 2, 40);
                for (int i = 0; i < 40; i++) {
                    x.cell(other, i, 1 + i);
                }
            }
            for (int sort = -1; sort < 3; sort++) {
                x.sheet(s, sort, 40);
                x.cell(s, 0, 77);
                x.cell(s, 39, 77);
                x.cell(s, 40, 78);
                x.cell(s, -1, 78);
                x.copy(s, 0, s, 1, 39);
                x.copy(s, 1, s, 0, 39);
            }
            x.film(s);
            x.image();
            for (int other = 0; other < 4; other++) {
                if (other != s) {
                    untouched(x, other, s);
                }
            }
        }
    }

    private static void untouched(CardNobodyReads x, int other, int s) {
        for (int at : new int[] {0, 38}) {
            due("46: sheet " + other + " beside " + s, x.linesBy(other, 2, at, 1), at == 0 ? 1 : 0);
            if (at == 0) {
                due("46: its first number", x.lineTold(0, 0), 1);
                due("46: its second number", x.lineTold(0, 1), 2);
            }
            x.back();
        }
        x.cell(other, 38, 3);
        due("46: sheet " + other + "'s end beside " + s, x.linesBy(other, 2, 38, 1), 1);
        due("46: its last number", x.lineTold(0, 1), 40);
        x.back();
    }

    /** A sign that is sure, or a part, does not make the sign ahead of it sure. */
    private static void signsBeside() {
        for (int sign = 0; sign < 6; sign++) {
            for (int part = 0; part < 6; part++) {
                CardNobodyReads x = Cards.blank();
                x.line(1 << sign, 5);
                x.know(1, 0, 1 << part, 0);
                for (int other = 0; other < 6; other++) {
                    String told = "sign " + other + ", if " + sign + " is " + part;
                    due("19: " + told, x.sure(other), other == sign ? part : -1);
                    due("20: " + told, x.doubt(other), other == sign ? 1 : 5);
                    due("18: " + told, x.means(other, part), other == sign ? 120 : 0);
                }
            }
        }
    }
}
