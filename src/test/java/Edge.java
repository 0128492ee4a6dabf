import java.util.ArrayList;
import java.util.List;
import java.util.function.Supplier;
import java.util.function.ToLongFunction;

/** A call and what it must leave as it was. */
final class Edge {
    private Edge() {
    }

    /** The call answers so, and all that can be seen of the card is then as on one without that call. */
    static void leaves(String told, Supplier<CardNobodyReads> made, ToLongFunction<CardNobodyReads> call, long want) {
        leaves(told, made, call, want, made);
    }

    /** The call answers so, and all that can be seen of the card is then as on another one. */
    static void leaves(String told, Supplier<CardNobodyReads> made, ToLongFunction<CardNobodyReads> call, long want,
            Supplier<CardNobodyReads> as) {
        CardNobodyReads x = made.get();
        Check.due(told, call.applyAsLong(x), want);
        List<String> is = seen(x);
        List<String> was = seen(as.get());
        for (int i = 0; i < was.size(); i++) {
            if (!is.get(i).equals(was.get(i))) {
                Check.due(told + ", and then " + is.get(i) + ", due is " + was.get(i), 1, 0);
                return;
            }
        }
        Check.due(told + " leaves all", is.size(), was.size());
    }

    /** The call answers the same twice, and changes nothing. */
    static void changesNothing(String told, ToLongFunction<CardNobodyReads> call) {
        leaves(told, Cards::half, x -> call.applyAsLong(x) - call.applyAsLong(x), 0);
        leaves(told, Cards::none, x -> call.applyAsLong(x) - call.applyAsLong(x), 0);
    }

    /** All that can be seen, told in words. What is asked last spoils the card, so each card is seen once. */
    private static List<String> seen(CardNobodyReads x) {
        List<String> all = new ArrayList<>();
        card(x, all);
        sheets(x, all);
        tape(x, all);
        tell(all, "back", x.back());
        card(x, all);
        sheets(x, all);
        return all;
    }

    private static void tell(List<String> all, String call, long answer) {
        all.add(call + " answered " + answer);
    }

    private static void card(CardNobodyReads x, List<String> all) {
        int[] many = new int[7];
        for (int what = 0; what < 7; what++) {
            many[what] = x.count(what);
            tell(all, "count " + what, many[what]);
        }
        for (int l = 0; l < many[0]; l++) {
            line(x, l, all);
        }
        for (int g = 0; g < many[1]; g++) {
            tell(all, "guest " + g, x.guestTold(g));
            tell(all, "order " + g, x.order(g));
        }
        for (int f = 0; f < many[2]; f++) {
            for (int what = 0; what < 4; what++) {
                tell(all, "fact " + f + ", " + what, x.factTold(f, what));
            }
        }
        tell(all, "sets", x.sets());
        for (int sign = 0; sign < 6; sign++) {
            tell(all, "first " + sign, x.first(sign));
            tell(all, "doubt " + sign, x.doubt(sign));
        }
        tell(all, "laws", x.laws());
        tell(all, "likes", x.asks(1, 0, 7, 1, 1));
        tell(all, "learns", x.asks(2, 0, 7, 1, 1));
    }

    private static void line(CardNobodyReads x, int l, List<String> all) {
        tell(all, "signs of " + l, x.lineTold(l, 0));
        tell(all, "price of " + l, x.lineTold(l, 1));
    }

    /** Which sort, how many numbers, and the first lines that they tell. */
    private static void sheets(CardNobodyReads x, List<String> all) {
        for (int s = 0; s < 4; s++) {
            int sort = -1;
            for (int wanted = 0; wanted < 3; wanted++) {
                int answer = x.linesBy(s, wanted, 0, 0);
                tell(all, "sheet " + s + " of sort " + wanted, answer);
                sort = answer == 0 ? wanted : sort;
            }
            for (int size : new int[] {0, 2, 3, 4, 40}) {
                tell(all, "sheet " + s + " of up to " + size, x.copy(s, size, s, size, 0));
            }
            int before = x.count(0);
            tell(all, "lines of sheet " + s, x.linesBy(s, sort, 0, 3));
            for (int l = before; l < x.count(0); l++) {
                line(x, l, all);
            }
        }
    }

    private static void tape(CardNobodyReads x, List<String> all) {
        tell(all, "room", x.feed(5, 'l', 'e', 'a', 'r', 'n'));
        tell(all, "room", x.feed(4, 's', ' ', '8', ';', 0));
        int t = x.text();
        tell(all, "text", t);
        tell(all, "force", x.force(t));
        tell(all, "likes", x.asks(1, 0, 7, 1, 1));
        tell(all, "learns", x.asks(2, 0, 7, 1, 1));
    }
}
