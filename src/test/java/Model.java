import java.util.ArrayList;
import java.util.List;
import java.util.Map;
import java.util.TreeMap;
import java.util.function.IntPredicate;
import java.util.function.ToIntFunction;

/**
 * The document once more, word by word and without any thought of speed: nothing is kept that can
 * be found again. TestAgainstModel compares the class with it.
 */
public final class Model {
    private static final long NO = -4611686018427387904L;

    private record Line(int signs) { }

    private record Fact(int kind, int line, int parts, int more) { }

    private record Text(List<ToIntFunction<Map<String, Integer>>> said) { }

    private record Kept(List<Integer> prices, int coin, int law, int guests, int facts) { }

    private static final class Fault extends Exception {
        private static final long serialVersionUID = 1L;
        private final int place;

        Fault(int place) {
            this.place = place;
        }
    }

    private final List<int[]> tongues = new ArrayList<>();
    private final List<Line> lines = new ArrayList<>();
    private final List<Integer> prices = new ArrayList<>();
    private final List<Integer> guests = new ArrayList<>();
    private final List<Fact> facts = new ArrayList<>();
    private final List<Text> texts = new ArrayList<>();
    private final List<Integer> tape = new ArrayList<>();
    private final Object[] sheets = new Object[4];
    private int coin = 100;
    private int law = 0;
    private Kept kept = null;

    public Model() {
        for (int n = 0; n < 1000000; n++) {
            int[] row = new int[6];
            int rest = n;
            for (int i = 5; i >= 0; i--) {
                row[i] = rest % 10;
                rest /= 10;
            }
            if (isTongue(row)) {
                tongues.add(row);
            }
            if (n > 543210) {
                break;
            }
        }
        for (char c : "may 1 ; likes 50 - price + many ; learns 720 - left ; ".toCharArray()) {
            tape.add((int) c);
        }
        text();
    }

    private static boolean isTongue(int[] row) {
        for (int i = 0; i < 6; i++) {
            if (row[i] > 5) {
                return false;
            }
            for (int j = 0; j < i; j++) {
                if (row[i] == row[j]) {
                    return false;
                }
            }
        }
        return true;
    }

    // ---- the card, guests, the law

    public int line(int set, int cost) {
        if (set < 1 || set > 63 || Integer.bitCount(set) > 3 || cost < 1 || cost > 99) {
            return -2;
        }
        if (lines.size() == 10) {
            return -4;
        }
        lines.add(new Line(set));
        prices.add(cost);
        return lines.size() - 1;
    }

    private boolean noLine(int l) {
        return l < 0 || l >= lines.size();
    }

    private boolean noGuest(int g) {
        return g < 0 || g >= guests.size();
    }

    private static boolean noSet(int set) {
        return set < 0 || set > 63;
    }

    public int lineTold(int l, int what) {
        if (noLine(l)) {
            return -5;
        }
        return what == 0 ? lines.get(l).signs : what == 1 ? prices.get(l) : -7;
    }

    public int set(int l, int v) {
        if (noLine(l)) {
            return -5;
        }
        if (v < 1 || v > 99) {
            return -7;
        }
        return prices.set(l, v);
    }

    public int guest(int set) {
        if (noSet(set)) {
            return -2;
        }
        if (guests.size() == 4) {
            return -4;
        }
        guests.add(set);
        return guests.size() - 1;
    }

    public int guestTold(int g) {
        return noGuest(g) ? -5 : guests.get(g);
    }

    public int pays(int v) {
        if (v < 0 || v > 999) {
            return -2;
        }
        int was = coin;
        coin = v;
        return was;
    }

    public int count(int what) {
        List<Integer> all = List.of(lines.size(), guests.size(), facts.size(), coin, texts.size(), law, tape.size());
        return what < 0 || what > 6 ? -2 : all.get(what);
    }

    public int feed(int n, int a, int b, int c, int d, int e) {
        List<Integer> five = List.of(a, b, c, d, e);
        if (n < 1 || n > 5 || five.stream().anyMatch(v -> v < 0 || v > 255)) {
            return -2;
        }
        if (tape.size() + n > 160) {
            return -4;
        }
        tape.addAll(five.subList(0, n));
        return tape.size();
    }

    public int text() {
        if (texts.size() == 6) {
            return -4;
        }
        try {
            texts.add(new Scribe(new ArrayList<>(tape)).read());
            return texts.size() - 1;
        } catch (Fault fault) {
            return -100 - fault.place;
        } finally {
            tape.clear();
        }
    }

    /** Reads a text; what is open stands in a counter that goes up and down. */
    private static final class Scribe {
        private static final List<String> NAMES = List.of("price", "parts", "place", "many", "guest", "left");
        private static final List<String> KEYS = List.of("may", "likes", "learns", "or", "and", "not");
        private final StringBuilder all = new StringBuilder();
        private int place = 0;
        private int open = 0;

        Scribe(List<Integer> bytes) {
            for (int b : bytes) {
                all.append((char) b);
            }
        }

        Text read() throws Fault {
            List<ToIntFunction<Map<String, Integer>>> said = new ArrayList<>();
            for (String key : List.of("may", "likes", "learns")) {
                take(key);
                said.add(either());
                take(";");
            }
            if (!peek().isEmpty()) {
                throw new Fault(place);
            }
            return new Text(said);
        }

        /** The next token, empty at the end, "?" if there can be none such; the place is its first byte's. */
        private String peek() {
            while (place < all.length() && (all.charAt(place) == ' ' || all.charAt(place) == '\n')) {
                place++;
            }
            if (place == all.length()) {
                return "";
            }
            String rest = all.substring(place);
            char c = rest.charAt(0);
            if (c >= 'a' && c <= 'z') {
                String word = rest.replaceFirst("(?s)[^a-z].*", "");
                return NAMES.contains(word) || KEYS.contains(word) ? word : "?";
            }
            if (c >= '0' && c <= '9') {
                String number = rest.replaceFirst("(?s)[^0-9].*", "");
                return number.length() > 4 ? "?" : number;
            }
            return "();+-*<=".indexOf(c) >= 0 ? "" + c : "?";
        }

        private boolean at(String token) {
            return peek().equals(token);
        }

        private void take(String token) throws Fault {
            if (!at(token)) {
                throw new Fault(place);
            }
            place += token.length();
        }

        private void opens(String token) throws Fault {
            if (at(token) && open == 5) {
                throw new Fault(place);
            }
            take(token);
            open++;
        }

        private ToIntFunction<Map<String, Integer>> either() throws Fault {
            ToIntFunction<Map<String, Integer>> all = both();
            while (at("or")) {
                take("or");
                ToIntFunction<Map<String, Integer>> left = all;
                ToIntFunction<Map<String, Integer>> right = both();
                all = told -> left.applyAsInt(told) != 0 || right.applyAsInt(told) != 0 ? 1 : 0;
            }
            return all;
        }

        private ToIntFunction<Map<String, Integer>> both() throws Fault {
            ToIntFunction<Map<String, Integer>> all = not();
            while (at("and")) {
                take("and");
                ToIntFunction<Map<String, Integer>> left = all;
                ToIntFunction<Map<String, Integer>> right = not();
                all = told -> left.applyAsInt(told) != 0 && right.applyAsInt(told) != 0 ? 1 : 0;
            }
            return all;
        }

        private ToIntFunction<Map<String, Integer>> not() throws Fault {
            if (at("not")) {
                opens("not");
                ToIntFunction<Map<String, Integer>> one = not();
                open--;
                return told -> one.applyAsInt(told) == 0 ? 1 : 0;
            }
            ToIntFunction<Map<String, Integer>> left = sum();
            if (at("<")) {
                take("<");
                ToIntFunction<Map<String, Integer>> right = sum();
                return told -> left.applyAsInt(told) < right.applyAsInt(told) ? 1 : 0;
            }
            if (at("=")) {
                take("=");
                ToIntFunction<Map<String, Integer>> right = sum();
                return told -> left.applyAsInt(told) == right.applyAsInt(told) ? 1 : 0;
            }
            return left;
        }

        private ToIntFunction<Map<String, Integer>> sum() throws Fault {
            ToIntFunction<Map<String, Integer>> all = term();
            while (at("+") || at("-")) {
                int sign = at("+") ? 1 : -1;
                take(sign == 1 ? "+" : "-");
                ToIntFunction<Map<String, Integer>> left = all;
                ToIntFunction<Map<String, Integer>> right = term();
                all = told -> left.applyAsInt(told) + sign * right.applyAsInt(told);
            }
            return all;
        }

        private ToIntFunction<Map<String, Integer>> term() throws Fault {
            ToIntFunction<Map<String, Integer>> all = one();
            while (at("*")) {
                take("*");
                ToIntFunction<Map<String, Integer>> left = all;
                ToIntFunction<Map<String, Integer>> right = one();
                all = told -> left.applyAsInt(told) * right.applyAsInt(told);
            }
            return all;
        }

        private ToIntFunction<Map<String, Integer>> one() throws Fault {
            String token = peek();
            if (token.equals("-")) {
                opens("-");
                ToIntFunction<Map<String, Integer>> of = one();
                open--;
                return told -> -of.applyAsInt(told);
            }
            if (token.equals("(")) {
                opens("(");
                ToIntFunction<Map<String, Integer>> of = either();
                take(")");
                open--;
                return of;
            }
            if (NAMES.contains(token)) {
                take(token);
                return told -> told.get(token);
            }
            if (!token.isEmpty() && Character.isDigit(token.charAt(0))) {
                take(token);
                int value = Integer.parseInt(token);
                return told -> value;
            }
            throw new Fault(place);
        }
    }

    public int force(int t) {
        if (t < 0 || t >= texts.size()) {
            return -2;
        }
        int was = law;
        law = t;
        return was;
    }

    private int said(int text, int part, int l, int set, int guest, int left) {
        Map<String, Integer> told = new TreeMap<>();
        told.put("price", prices.get(l));
        told.put("parts", set);
        told.put("place", l);
        told.put("many", Integer.bitCount(set));
        told.put("guest", guest);
        told.put("left", left);
        int v = texts.get(text).said.get(part).applyAsInt(told);
        if (part == 0) {
            return v == 0 ? 0 : 1;
        }
        int bound = part == 1 ? 99 : 999;
        return v < 0 ? 0 : v > bound ? bound : v;
    }

    public int asks(int part, int l, int set, int guest, int left) {
        if (noLine(l)) {
            return -5;
        }
        if (part < 0 || part > 2 || noSet(set) || guest < 0 || guest > 3 || left < 0 || left > 720) {
            return -7;
        }
        return said(law, part, l, set, guest, left);
    }

    // ---- facts

    private boolean badFact(int kind, int l, int parts, int more) {
        return kind < 0 || kind > 5 || noLine(l) || noSet(parts) || more < 0 || more > 9
                || kind == 4 && noLine(more);
    }

    public int know(int kind, int l, int parts, int more) {
        if (badFact(kind, l, parts, more)) {
            return -2;
        }
        if (facts.size() == 12) {
            return -4;
        }
        facts.add(new Fact(kind, l, parts, more));
        return facts.size() - 1;
    }

    public int forget() {
        if (facts.isEmpty()) {
            return -3;
        }
        facts.remove(facts.size() - 1);
        if (kept != null && kept.facts > facts.size()) {
            kept = null;
        }
        return facts.size();
    }

    public int factTold(int f, int what) {
        if (f < 0 || f >= facts.size()) {
            return -5;
        }
        Fact fact = facts.get(f);
        return switch (what) {
            case 0 -> fact.kind;
            case 1 -> fact.line;
            case 2 -> fact.parts;
            case 3 -> fact.more;
            default -> -7;
        };
    }

    // ---- what fits

    private int had(int l, int[] tongue) {
        int parts = 0;
        for (int sign = 0; sign < 6; sign++) {
            if ((lines.get(l).signs & 1 << sign) != 0) {
                parts |= 1 << tongue[sign];
            }
        }
        return parts;
    }

    private boolean holds(Fact fact, int[] tongue) {
        int has = had(fact.line, tongue);
        boolean allIn = (has | fact.parts) == has;
        return switch (fact.kind) {
            case 0 -> true;
            case 1 -> has == fact.parts;
            case 2 -> allIn;
            case 3 -> allIn || Integer.bitCount(fact.parts & has) >= fact.more;
            case 4 -> (has & had(fact.more, tongue)) == fact.parts;
            default -> (has & fact.parts) == 0;
        };
    }

    private List<int[]> fitting(int text, List<Fact> those) {
        // what a line may have is asked once a set, else the comparison would take minutes
        int[][] may = new int[lines.size()][64];
        for (int l = 0; l < lines.size(); l++) {
            for (int set = 0; set < 64; set++) {
                may[l][set] = said(text, 0, l, set, 0, 0);
            }
        }
        List<int[]> found = new ArrayList<>();
        for (int[] tongue : tongues) {
            boolean lawful = true;
            for (int l = 0; l < lines.size() && lawful; l++) {
                lawful = may[l][had(l, tongue)] == 1;
            }
            if (lawful && those.stream().allMatch(fact -> holds(fact, tongue))) {
                found.add(tongue);
            }
        }
        return found;
    }

    private List<int[]> fitting() {
        return fitting(law, facts);
    }

    private static int among(List<int[]> tongues, IntPredicate test) {
        int n = 0;
        for (int i = 0; i < tongues.size(); i++) {
            if (test.test(i)) {
                n++;
            }
        }
        return n;
    }

    private static long fraction(long some, long all, int p) {
        if (all == 0) {
            return NO;
        }
        for (long d = all; d > 1; d--) {
            if (some % d == 0 && all % d == 0) {
                some /= d;
                all /= d;
            }
        }
        return p == 0 ? some : all;
    }

    public int sets() {
        return fitting().size();
    }

    public int first(int sign) {
        if (sign < 0 || sign > 5) {
            return -5;
        }
        List<int[]> fit = fitting();
        return fit.isEmpty() ? -1 : fit.get(0)[sign];
    }

    public int means(int sign, int part) {
        if (sign < 0 || sign > 5 || part < 0 || part > 5) {
            return -5;
        }
        List<int[]> fit = fitting();
        return among(fit, i -> fit.get(i)[sign] == part);
    }

    public int sure(int sign) {
        if (sign < 0 || sign > 5) {
            return -5;
        }
        List<int[]> fit = fitting();
        long kinds = fit.stream().map(tongue -> tongue[sign]).distinct().count();
        return kinds == 1 ? fit.get(0)[sign] : -1;
    }

    public int doubt(int sign) {
        if (sign < -1 || sign > 5) {
            return -5;
        }
        List<int[]> fit = fitting();
        if (sign >= 0) {
            return (int) fit.stream().map(tongue -> tongue[sign]).distinct().count();
        }
        int best = 0;
        for (int s = 1; s < 6; s++) {
            if (doubt(s) > doubt(best)) {
                best = s;
            }
        }
        return best;
    }

    public long odds(int sign, int part, int p) {
        if (means(sign, part) < 0 || p < 0 || p > 1) {
            return NO;
        }
        return fraction(means(sign, part), sets(), p);
    }

    public long has(int l, int set, int p) {
        if (noLine(l) || noSet(set) || p < 0 || p > 1) {
            return NO;
        }
        List<int[]> fit = fitting();
        return fraction(among(fit, i -> (had(l, fit.get(i)) & set) == set), fit.size(), p);
    }

    public int partsOfLine(int l, int what) {
        if (noLine(l)) {
            return -5;
        }
        if (what < 0 || what > 1) {
            return -7;
        }
        List<int[]> fit = fitting();
        if (fit.isEmpty()) {
            return -1;
        }
        return fit.stream().map(t -> had(l, t)).reduce((a, b) -> what == 0 ? a & b : a | b).get();
    }

    // ---- guests, tonight

    private boolean isSafe(int g, int l, List<int[]> fit) {
        return !fit.isEmpty() && fit.stream().allMatch(t -> (had(l, t) & guests.get(g)) == 0);
    }

    public int safe(int g) {
        if (noGuest(g)) {
            return -5;
        }
        List<int[]> fit = fitting();
        int bits = 0;
        for (int l = 0; l < lines.size(); l++) {
            if (isSafe(g, l, fit)) {
                bits |= 1 << l;
            }
        }
        return bits;
    }

    public long risk(int g, int l, int p) {
        if (noGuest(g) || noLine(l) || p < 0 || p > 1) {
            return NO;
        }
        List<int[]> fit = fitting();
        return fraction(among(fit, i -> (had(l, fit.get(i)) & guests.get(g)) != 0), fit.size(), p);
    }

    private int liking(int g, int l, List<int[]> fit) {
        int[] memo = new int[64];
        java.util.Arrays.fill(memo, -1);
        int sum = 0;
        for (int[] tongue : fit) {
            int has = had(l, tongue);
            if (memo[has] < 0) {
                memo[has] = said(law, 1, l, has, g, fit.size());
            }
            sum += memo[has];
        }
        return sum;
    }

    /** Rows of -1 and lines in their order, each way looked at whole: its lines, LIKING, PRICES. */
    private int[] tonight() {
        List<int[]> fit = fitting();
        int n = guests.size();
        int m = lines.size();
        int[][] liking = new int[n][m];
        boolean[][] safe = new boolean[n][m];
        for (int g = 0; g < n; g++) {
            for (int l = 0; l < m; l++) {
                liking[g][l] = liking(g, l, fit);
                safe[g][l] = isSafe(g, l, fit);
            }
        }
        int ways = 1;
        for (int g = 0; g < n; g++) {
            ways *= m + 1;
        }
        int[] best = null;
        for (int way = 0; way < ways; way++) {
            int[] row = new int[n + 2];
            int rest = way;
            boolean can = true;
            for (int g = n - 1; g >= 0; g--) {
                int l = rest % (m + 1) - 1;
                rest /= m + 1;
                row[g] = l;
                if (l >= 0) {
                    can &= safe[g][l];
                    row[n] += liking[g][l];
                    row[n + 1] += prices.get(l);
                }
            }
            if (can && row[n + 1] <= coin && (best == null || row[n] > best[n])) {
                best = row;
            }
        }
        return best;
    }

    public int order(int g) {
        return noGuest(g) ? -5 : tonight()[g];
    }

    public int ordered(int what) {
        return what < 0 || what > 1 ? -2 : tonight()[guests.size() + what];
    }

    public int middle(int set) {
        if (set < 0 || set >= 1 << lines.size()) {
            return -2;
        }
        List<int[]> fit = fitting();
        int sum = 0;
        for (int g = 0; g < guests.size(); g++) {
            int most = 0;
            for (int l = 0; l < lines.size(); l++) {
                if ((set & 1 << l) != 0 && isSafe(g, l, fit)) {
                    most = Math.max(most, liking(g, l, fit));
                }
            }
            sum += most;
        }
        return sum;
    }

    // ---- what to taste, what to ask

    public int taste(int what) {
        if (what < 0 || what > 1) {
            return -2;
        }
        List<int[]> fit = fitting();
        int best = -1;
        int most = -1;
        for (int l = 0; l < lines.size(); l++) {
            Map<Integer, Integer> many = new TreeMap<>();
            for (int[] tongue : fit) {
                many.merge(had(l, tongue), 1, Integer::sum);
            }
            int sum = 0;
            for (int[] tongue : fit) {
                int has = had(l, tongue);
                sum += said(law, 2, l, has, 0, many.get(has));
            }
            if (sum > most) {
                best = l;
                most = sum;
            }
        }
        return what == 0 ? best : Math.max(0, most);
    }

    public int two(int what) {
        if (what < 0 || what > 1) {
            return -2;
        }
        List<int[]> fit = fitting();
        int best = -1;
        int least = Integer.MAX_VALUE;
        for (int a = 0; a < lines.size(); a++) {
            for (int b = a + 1; b < lines.size(); b++) {
                Map<Integer, Integer> many = new TreeMap<>();
                for (int[] tongue : fit) {
                    many.merge(had(a, tongue) * 100 + had(b, tongue), 1, Integer::sum);
                }
                int sum = many.values().stream().mapToInt(v -> v * v).sum();
                if (sum < least) {
                    best = a * 10 + b;
                    least = sum;
                }
            }
        }
        return what == 0 ? best : best < 0 ? 0 : least;
    }

    public int ask(int what) {
        if (what < 0 || what > 1) {
            return -2;
        }
        List<int[]> fit = fitting();
        int best = -1;
        int most = -1;
        for (int i = 0; i < lines.size() * 6; i++) {
            int l = i / 6;
            int part = i % 6;
            int have = among(fit, t -> (had(l, fit.get(t)) >> part) % 2 == 1);
            if (Math.min(have, fit.size() - have) > most) {
                best = l * 10 + part;
                most = Math.min(have, fit.size() - have);
            }
        }
        return what == 0 ? best : Math.max(0, most);
    }

    public int would(int kind, int l, int parts, int more) {
        if (facts.size() == 12) {
            return -3;
        }
        if (badFact(kind, l, parts, more)) {
            return -2;
        }
        List<Fact> those = new ArrayList<>(facts);
        those.add(new Fact(kind, l, parts, more));
        return fitting(law, those).size();
    }

    private List<Fact> without(int f) {
        List<Fact> those = new ArrayList<>(facts);
        those.remove(f);
        return those;
    }

    public int clash() {
        if (sets() > 0) {
            return 0;
        }
        int bits = 0;
        for (int f = 0; f < facts.size(); f++) {
            bits |= fitting(law, without(f)).isEmpty() ? 0 : 1 << f;
        }
        return bits;
    }

    public int idle() {
        int bits = 0;
        for (int f = 0; f < facts.size(); f++) {
            bits |= fitting(law, without(f)).size() == sets() ? 1 << f : 0;
        }
        return bits;
    }

    // ---- bills, meals

    public int bill(int n, int sum, int what) {
        if (n < 0 || n > 10 || sum < 0 || sum > 999 || what < 0 || what > 2) {
            return -2;
        }
        List<Integer> found = new ArrayList<>();
        for (int set = 0; set < 1 << lines.size(); set++) {
            int cost = 0;
            for (int l = 0; l < lines.size(); l++) {
                cost += (set & 1 << l) != 0 ? prices.get(l) : 0;
            }
            if (Integer.bitCount(set) == n && cost == sum) {
                found.add(set);
            }
        }
        return what == 0 ? found.size()
                : found.stream().reduce((a, b) -> what == 1 ? a & b : a | b).orElse(0);
    }

    private static int sizeOf(Object sheet) {
        return java.lang.reflect.Array.getLength(sheet);
    }

    private static int number(Object sheet, int i) {
        return ((Number) java.lang.reflect.Array.get(sheet, i)).intValue();
    }

    private static void put(Object sheet, int i, int v) {
        if (sheet instanceof byte[] bytes) {
            bytes[i] = (byte) v;
        } else if (sheet instanceof short[] shorts) {
            shorts[i] = (short) v;
        } else if (sheet instanceof int[] ints) {
            ints[i] = v;
        }
    }

    public int match(int s) {
        if (s < 0 || s > 3) {
            return -2;
        }
        if (sheets[s] == null) {
            return -11;
        }
        if (sizeOf(sheets[s]) != lines.size()) {
            return -2;
        }
        int n = 0;
        for (int[] tongue : fitting()) {
            boolean so = true;
            for (int l = 0; l < lines.size(); l++) {
                so &= number(sheets[s], l) == had(l, tongue);
            }
            n += so ? 1 : 0;
        }
        return n;
    }

    public int film(int s) {
        if (s < 0 || s > 3) {
            return -2;
        }
        List<int[]> fit = fitting();
        if (fit.isEmpty()) {
            return -3;
        }
        int[] row = new int[lines.size()];
        for (int l = 0; l < row.length; l++) {
            row[l] = had(l, fit.get(0));
        }
        sheets[s] = row;
        return row.length;
    }

    public int laws() {
        int bits = 0;
        for (int t = 0; t < texts.size(); t++) {
            bits |= fitting(t, facts).isEmpty() ? 0 : 1 << t;
        }
        return bits;
    }

    // ---- lots

    private static int[] lot(int seed, List<int[]> fit) {
        java.math.BigInteger lot = java.math.BigInteger.valueOf(seed).add(java.math.BigInteger.ONE)
                .multiply(java.math.BigInteger.valueOf(48271)).mod(java.math.BigInteger.valueOf(2147483647));
        return fit.get(lot.mod(java.math.BigInteger.valueOf(fit.size())).intValue());
    }

    public int drawn(int seed, int sign) {
        if (seed < 0 || seed > 99999 || sign < 0 || sign > 5) {
            return -2;
        }
        List<int[]> fit = fitting();
        return fit.isEmpty() ? -1 : lot(seed, fit)[sign];
    }

    public long chance(int g, int l, int seed, int seeds, int p) {
        if (noGuest(g) || noLine(l) || seed < 0 || seed > 99999 || seeds < 1 || seeds > 30 || p < 0 || p > 1) {
            return NO;
        }
        List<int[]> fit = fitting();
        if (fit.isEmpty()) {
            return NO;
        }
        int n = 0;
        for (int i = 0; i < seeds; i++) {
            n += (had(l, lot(seed + i, fit)) & guests.get(g)) != 0 ? 1 : 0;
        }
        return fraction(n, seeds, p);
    }

    public int image() {
        kept = new Kept(new ArrayList<>(prices), coin, law, guests.size(), facts.size());
        return lines.size();
    }

    private static void shorten(List<?> list, int n) {
        while (list.size() > n) {
            list.remove(list.size() - 1);
        }
    }

    public int back() {
        if (kept == null) {
            return -3;
        }
        shorten(lines, kept.prices.size());
        shorten(guests, kept.guests);
        shorten(facts, kept.facts);
        prices.clear();
        prices.addAll(kept.prices);
        coin = kept.coin;
        law = kept.law;
        return lines.size();
    }

    // ---- the host

    public int sheet(int s, int sort, int n) {
        if (s < 0 || s > 3 || sort < -1 || sort > 2 || sort != -1 && n > 40) {
            return -2;
        }
        if (sort != -1 && n < 0) {
            return -14;
        }
        sheets[s] = sort == -1 ? null : sort == 0 ? new byte[n] : sort == 1 ? new short[n] : new int[n];
        return 1;
    }

    public int cell(int s, int i, int v) {
        if (s < 0 || s > 3) {
            return -2;
        }
        if (sheets[s] == null) {
            return -11;
        }
        if (i < 0 || i >= sizeOf(sheets[s])) {
            return -12;
        }
        put(sheets[s], i, v);
        return 1;
    }

    public int copy(int s, int i, int other, int j, int n) {
        if (s < 0 || s > 3 || other < 0 || other > 3) {
            return -2;
        }
        try {
            System.arraycopy(sheets[s], i, sheets[other], j, n);
            return n;
        } catch (NullPointerException e) {
            return -11;
        } catch (ArrayStoreException e) {
            return -13;
        } catch (ArrayIndexOutOfBoundsException e) {
            return -12;
        }
    }

    public int linesBy(int s, int sort, int at, int n) {
        if (s < 0 || s > 3 || sort < 0 || sort > 2 || n < 0 || n > 10) {
            return -2;
        }
        if (sheets[s] == null) {
            return -11;
        }
        Class<?> wanted = sort == 0 ? byte[].class : sort == 1 ? short[].class : int[].class;
        if (sheets[s].getClass() != wanted) {
            return -13;
        }
        int came = 0;
        for (int k = 0; k < n; k++) {
            try {
                int set = number(sheets[s], at + 2 * k);
                int cost = number(sheets[s], at + 2 * k + 1);
                came += line(set, cost) >= 0 ? 1 : 0;
            } catch (ArrayIndexOutOfBoundsException e) {
                return -12;
            }
        }
        return came;
    }

    public int taken(int i, int kind) {
        if (kind < 0 || kind > 6) {
            return -2;
        }
        if (i < 0 || i > 21) {
            return -12;
        }
        if (i < 10) {
            return noLine(i) ? -11 : kind == 6 ? lines.get(i).signs : -13;
        }
        int f = i - 10;
        if (f >= facts.size()) {
            return -11;
        }
        List<List<Integer>> also = List.of(List.of(0), List.of(0, 1), List.of(0, 2), List.of(0, 2, 3),
                List.of(0, 1, 4), List.of(0, 2, 5));
        return also.get(facts.get(f).kind).contains(kind) ? f : -13;
    }
}
