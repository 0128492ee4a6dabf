import java.lang.reflect.InvocationTargetException;
import java.lang.reflect.Method;
import java.util.ArrayDeque;
import java.util.Arrays;
import java.util.Map;
import java.util.Queue;
import java.util.TreeMap;

/** Runs of calls by lot: the class answers what the model answers, call for call. */
public final class TestAgainstModel {
    private static final int RUNS = Integer.getInteger("runs", 250);
    private static final int CALLS = 400;
    /** The calls that change something, and those that are worth asking more than once a run. */
    private static final String CHANGES = "line line line set guest pays force know know know know forget image back "
            + "sheet sheet cell cell cell copy linesBy film text count";

    private final Lot lot;
    private final TextsByLot texts;
    private final Map<String, Method> ours = new TreeMap<>();
    private final Map<String, Method> theirs = new TreeMap<>();
    private final String[] names;
    private CardNobodyReads program;
    private Model model;
    private int[] truth;
    private final Queue<Integer> toFeed = new ArrayDeque<>();
    private final Queue<String> plannedNames = new ArrayDeque<>();
    private final Queue<int[]> plannedNumbers = new ArrayDeque<>();

    private TestAgainstModel(long seed) {
        lot = new Lot(seed);
        texts = new TextsByLot(lot);
        for (Method method : CardNobodyReads.class.getDeclaredMethods()) {
            if (java.lang.reflect.Modifier.isPublic(method.getModifiers())) {
                ours.put(method.getName(), method);
            }
        }
        for (String name : ours.keySet()) {
            for (Method method : Model.class.getDeclaredMethods()) {
                if (method.getName().equals(name) && java.lang.reflect.Modifier.isPublic(method.getModifiers())) {
                    theirs.put(name, method);
                }
            }
        }
        names = ours.keySet().toArray(new String[0]);
    }

    public static void main(String[] args) throws ReflectiveOperationException {
        long from = Long.getLong("from", 1);
        for (long seed = from; seed < from + RUNS && Check.allRight(); seed++) {
            new TestAgainstModel(seed).run(seed);
        }
        Check.end();
    }

    private void run(long seed) throws ReflectiveOperationException {
        program = new CardNobodyReads();
        model = new Model();
        truth = new int[6];
        Arrays.setAll(truth, i -> model.drawn((int) (seed * 7 % 1000), i));
        String[] changes = CHANGES.split(" ");
        int lines = lot.below(6);
        int patience = lot.from(2, 6);
        for (int i = 0; i < CALLS && Check.allRight(); i++) {
            if (!plannedNames.isEmpty()) {
                call(seed, i, plannedNames.remove(), plannedNumbers.remove());
                continue;
            }
            String name = toFeed.isEmpty() ? nextName(i < lines, patience, changes) : "feed";
            call(seed, i, name, numbersFor(name));
            if (name.equals("feed") && toFeed.isEmpty()) {
                plan("text");
                if (lot.once(2)) {
                    plan("force", Math.min(5, model.count(4)));
                }
            }
        }
    }

    private String nextName(boolean young, int patience, String[] changes) {
        if (young) {
            return "line";
        }
        if (lot.once(25) && (model.count(4) < 6 || lot.once(20))) {
            prepareText();
            return "feed";
        }
        if (lot.once(40)) {
            planMeal();
        } else if (lot.once(40)) {
            planLines();
        } else if (lot.once(30)) {
            planTonight();
        } else if (model.sets() == 0 && model.count(2) > 0 && lot.once(8)) {
            return "forget";
        }
        String name = lot.once(patience) ? changes[lot.below(changes.length)] : names[lot.below(names.length)];
        boolean undoes = name.equals("forget") || name.equals("back");
        return undoes && lot.once(2) ? "image" : name;
    }

    private void plan(String name, int... numbers) {
        plannedNames.add(name);
        plannedNumbers.add(numbers);
    }

    /** A sheet that tells a meal of some tongue, perhaps with a number that is off. */
    private void planMeal() {
        int s = lot.below(4);
        if (lot.once(2)) {
            plan("film", s);
        } else {
            plan("sheet", s, lot.below(3), model.count(0));
            int[] tongue = new int[6];
            Arrays.setAll(tongue, i -> Math.max(0, model.drawn(5, i)));
            for (int l = 0; l < model.count(0); l++) {
                int has = 0;
                for (int sign = 0; sign < 6; sign++) {
                    has |= (model.lineTold(l, 0) >> sign & 1) << tongue[sign];
                }
                plan("cell", s, l, has + 65536 * lot.below(2) + 256 * lot.below(2));
            }
        }
        plan("match", s);
        if (lot.once(3)) {
            plan("cell", s, lot.below(3), 1 << lot.below(6));
            plan("match", s);
        }
    }

    private void planLines() {
        int s = lot.below(4);
        int sort = lot.below(3);
        int n = lot.from(1, 12);
        plan("sheet", s, sort, n);
        for (int i = 0; i < n; i++) {
            int usual = i % 2 == 0 ? 1 << lot.below(6) | 1 << lot.below(6) : lot.from(1, 99);
            plan("cell", s, i, lot.once(6) ? lot.near(0, 300) : usual);
        }
        plan("linesBy", s, sort, lot.near(0, 3), lot.near(0, n / 2 + 1));
        plan("count", 0);
    }

    private void planTonight() {
        for (int what = 0; what < 2; what++) {
            plan("ordered", what);
            plan("taste", what);
            plan("two", what);
            plan("ask", what);
        }
        for (int g = 0; g < 4; g++) {
            plan("order", g);
            plan("safe", g);
        }
        plan("middle", lot.below(1 << model.count(0)));
    }

    private void prepareText() {
        String text = texts.text();
        for (int tries = 0; tries < 20 && text.length() > 160 && !lot.once(10); tries++) {
            text = texts.text();
        }
        for (char c : text.toCharArray()) {
            toFeed.add((int) c);
        }
    }

    private void call(long seed, int i, String name, int[] numbers) throws ReflectiveOperationException {
        Object[] args = Arrays.stream(numbers).boxed().toArray();
        String told = "run " + seed + ", call " + i + ": " + name + Arrays.toString(numbers);
        Method theirOne = theirs.get(name);
        if (theirOne == null) {
            throw new IllegalStateException("the model has no " + name);
        }
        try {
            long want = ((Number) theirOne.invoke(model, args)).longValue();
            long got = ((Number) ours.get(name).invoke(program, args)).longValue();
            Check.due(told, got, want);
        } catch (InvocationTargetException e) {
            e.getCause().printStackTrace();
            Check.due(told + " threw", 1, 0);
        }
    }

    private int aLine() {
        return lot.near(0, model.count(0) - 1);
    }

    private int aGuest() {
        return lot.near(0, model.count(1) - 1);
    }

    private int aSet() {
        return lot.near(0, 63);
    }

    private int some() {
        return lot.once(3) ? 1 << lot.below(6) : lot.once(2) ? 1 << lot.below(6) | 1 << lot.below(6) : aSet();
    }

    private int half() {
        return lot.near(0, 1);
    }

    private int[] numbersFor(String name) {
        switch (name) {
            case "line":
                return new int[] {lot.once(8) ? aSet() : 1 << lot.below(6) | 1 << lot.below(6) | 1 << lot.below(6),
                    lot.once(2) ? lot.near(1, 9) : lot.near(1, 99)};
            case "lineTold", "partsOfLine":
                return new int[] {aLine(), half()};
            case "set":
                return new int[] {aLine(), lot.once(2) ? lot.near(1, 9) : lot.near(1, 99)};
            case "guest":
                return new int[] {lot.once(3) ? 1 << lot.below(6) : lot.once(8) ? 0 : some()};
            case "guestTold", "safe", "order":
                return new int[] {aGuest()};
            case "pays":
                return new int[] {lot.once(2) ? lot.near(0, 40) : lot.near(0, 999)};
            case "count":
                return new int[] {lot.near(0, 6)};
            case "feed":
                return someBytes();
            case "force":
                return new int[] {lot.near(0, model.count(4) - 1)};
            case "asks":
                return new int[] {lot.near(0, 2), aLine(), aSet(), lot.near(0, 3), lot.near(0, 720)};
            case "know", "would":
                return aFact();
            case "factTold":
                return new int[] {lot.near(0, model.count(2) - 1), lot.near(0, 3)};
            case "first", "sure":
                return new int[] {lot.near(0, 5)};
            case "doubt":
                return new int[] {lot.near(-1, 5)};
            case "means":
                return new int[] {lot.near(0, 5), lot.near(0, 5)};
            case "odds":
                return new int[] {lot.near(0, 5), lot.near(0, 5), half()};
            case "has":
                return new int[] {aLine(), some(), half()};
            case "risk":
                return new int[] {aGuest(), aLine(), half()};
            case "ordered", "taste", "two", "ask":
                return new int[] {half()};
            case "middle":
                return new int[] {lot.near(0, (1 << model.count(0)) - 1)};
            case "bill":
                return new int[] {lot.near(0, lot.once(3) ? 10 : 3), aSum(), lot.near(0, 2)};
            case "match", "film":
                return new int[] {lot.near(0, 3)};
            case "drawn":
                return new int[] {lot.near(0, 99999), lot.near(0, 5)};
            case "chance":
                return new int[] {aGuest(), aLine(), lot.once(5) ? lot.near(99980, 99999) : lot.near(0, 99999),
                    lot.near(1, 30), half()};
            case "sheet":
                return new int[] {lot.near(0, 3), lot.near(-1, 2), lot.once(3) ? model.count(0) : lot.near(0, 40)};
            case "cell":
                return new int[] {lot.near(0, 3), lot.near(0, lot.once(2) ? 5 : 20), aCell()};
            case "copy":
                return new int[] {lot.near(0, 3), lot.near(0, 8), lot.near(0, 3), lot.near(0, 8), lot.near(0, 8)};
            case "linesBy":
                return new int[] {lot.near(0, 3), lot.near(0, 2), lot.near(0, 8), lot.near(0, lot.once(3) ? 10 : 3)};
            case "taken":
                return new int[] {lot.near(0, 21), lot.near(0, 6)};
            default:
                return new int[0];
        }
    }

    private int aSum() {
        int sum = 0;
        for (int l = 0; l < model.count(0) && lot.once(2); l++) {
            sum += model.lineTold(lot.below(model.count(0)), 1);
        }
        return lot.once(8) ? lot.near(0, 999) : sum;
    }

    private int aCell() {
        return lot.once(4) ? lot.near(Integer.MIN_VALUE + 1, Integer.MAX_VALUE - 1)
                : lot.once(3) ? lot.near(-70000, 70000) : lot.once(2) ? 1 << lot.below(6) | 1 << lot.below(6)
                : lot.near(1, 63);
    }

    /** Mostly a fact that holds in the tongue that is kept in mind, so that some tongues go on to fit. */
    private int[] aFact() {
        int kind = lot.near(0, 5);
        int l = aLine();
        int parts = aSet();
        int more = lot.once(2) ? lot.near(0, 3) : lot.near(0, 9);
        if (lot.once(6) || model.lineTold(l, 0) < 0) {
            return new int[] {kind, l, parts, more};
        }
        int has = had(l);
        switch (kind) {
            case 1:
                parts = has;
                break;
            case 2:
                parts = has & lot.below(64);
                break;
            case 4:
                more = lot.below(model.count(0));
                parts = has & had(more);
                break;
            case 5:
                parts = ~has & 63 & lot.below(64);
                break;
            default:
                break;
        }
        return new int[] {kind, l, parts, more};
    }

    private int had(int l) {
        int has = 0;
        for (int sign = 0; sign < 6; sign++) {
            has |= (model.lineTold(l, 0) >> sign & 1) << truth[sign];
        }
        return has;
    }

    private int[] someBytes() {
        int[] six = {toFeed.isEmpty() ? lot.near(1, 5) : Math.min(5, toFeed.size()), 0, 0, 0, 0, 0};
        for (int i = 1; i < 6; i++) {
            six[i] = toFeed.isEmpty() ? lot.near(0, 255) : 32;
        }
        boolean hasText = !toFeed.isEmpty();
        for (int i = 1; i <= six[0] && i < 6 && hasText; i++) {
            six[i] = toFeed.remove();
        }
        return six;
    }
}
