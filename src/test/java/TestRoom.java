import java.lang.management.ManagementFactory;

/** All calls of one run live in one room: an object is small, and no call makes anything behind it. */
public final class TestRoom {
    private static final com.sun.management.ThreadMXBean THREADS =
            (com.sun.management.ThreadMXBean) ManagementFactory.getThreadMXBean();
    private static final String TEXT = "may not ((price<60)) or many=2;likes 7-guest;learns 8*left;";
    /** Bytes; 25,000 ints. */
    private static final long MOST_MADE_AT_FIRST = 100_000;

    private TestRoom() {
    }

    public static void main(String[] args) {
        // the first time a call is made the machine itself may make things
        for (int warm = 0; warm < 3; warm++) {
            madeBy(Cards.half());
            madeBy(Cards.full());
            madeBy(Cards.none());
            madeAtFirst();
        }
        Check.due("bytes of an object", Math.max(MOST_MADE_AT_FIRST, madeAtFirst()), MOST_MADE_AT_FIRST);
        Check.due("an object is seen to be made", madeAtFirst() > 0 ? 1 : 0, 1);
        Check.due("bytes made by calls, half a card", madeBy(Cards.half()), 0);
        Check.due("bytes made by calls, a full card", madeBy(Cards.full()), 0);
        Check.due("bytes made by calls, none fits", madeBy(Cards.none()), 0);
        Check.end();
    }

    private static long madeAtFirst() {
        long before = THREADS.getCurrentThreadAllocatedBytes();
        CardNobodyReads x = new CardNobodyReads();
        return THREADS.getCurrentThreadAllocatedBytes() - before + 0L * x.count(0);
    }

    private static long madeBy(CardNobodyReads x) {
        long before = THREADS.getCurrentThreadAllocatedBytes();
        change(x);
        ask(x);
        return THREADS.getCurrentThreadAllocatedBytes() - before;
    }

    private static void change(CardNobodyReads x) {
        x.line(7, 9);
        x.set(0, 8);
        x.guest(3);
        x.pays(70);
        x.feed(5, 'm', 'a', 'y', ';', 0);
        x.text();
        for (int i = 0; i < TEXT.length(); i++) {
            x.feed(1, TEXT.charAt(i), 0, 0, 0, 0);
        }
        x.text();
        x.image();
        x.force(1);
        x.know(5, 0, 32, 0);
        x.back();
        x.forget();
        x.sheet(3, 2, 40);
        x.cell(3, 0, 3);
        x.cell(3, 1, 5);
        x.copy(3, 0, 3, 2, 30);
        x.linesBy(3, 2, 0, 5);
        x.film(0);
    }

    private static void ask(CardNobodyReads x) {
        x.lineTold(0, 0);
        x.guestTold(0);
        x.count(0);
        x.asks(1, 0, 3, 0, 0);
        x.factTold(0, 0);
        x.sets();
        x.first(0);
        x.means(0, 0);
        x.sure(0);
        x.doubt(-1);
        x.odds(0, 0, 0);
        x.has(0, 1, 0);
        x.partsOfLine(0, 0);
        x.safe(0);
        x.risk(0, 0, 0);
        x.order(0);
        x.ordered(0);
        x.middle(3);
        x.taste(0);
        x.two(0);
        x.ask(0);
        x.would(3, 0, 7, 2);
        x.clash();
        x.idle();
        x.bill(2, 30, 0);
        x.match(0);
        x.laws();
        x.drawn(5, 0);
        x.chance(0, 0, 5, 30, 0);
        x.taken(10, 0);
    }
}
