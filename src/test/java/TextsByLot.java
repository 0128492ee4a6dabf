/** Texts by lot: mostly sound, some with a fault put in. */
final class TextsByLot {
    private static final String[] NAMES = {"price", "parts", "place", "many", "guest", "left"};
    private static final String[] PIECES = {"may", "likes", "learns", "or", "and", "not", "price", "left", "12345",
        "0", "7", "99", "(", ")", ";", "+", "-", "*", "<", "=", "x", "pric", "prices", "?", "\t", "A", "00001", "\n",
        "((((((", "------", "not not not not not not", "(-(-(-", "\u00e9", "\u0000"};
    private final Lot lot;

    TextsByLot(Lot lot) {
        this.lot = lot;
    }

    String text() {
        int depth = lot.from(0, 3);
        StringBuilder all = new StringBuilder();
        all.append(lot.once(6) ? blank() : "").append("may").append(gap());
        all.append(lot.once(4) ? "1" : lot.once(2) ? usualMay() : either(depth));
        all.append(blank()).append(";").append(blank()).append("likes").append(gap()).append(either(depth));
        all.append(blank()).append(";").append(blank()).append("learns").append(gap()).append(either(depth));
        all.append(blank()).append(";").append(lot.once(4) ? blank() : "");
        if (lot.once(3)) {
            spoil(all);
        }
        return all.toString();
    }

    private String usualMay() {
        String[] usual = {"parts<" + lot.from(20, 60), "not parts=" + lot.from(0, 63), "price<60or many<3",
            "parts-many*" + lot.from(1, 20) + "<" + lot.from(0, 50), "not(place=1 and parts<9)",
            "not guest and not left", "parts*parts<" + lot.from(100, 3000), "not place=" + lot.from(0, 4) + " or parts=5"};
        return usual[lot.below(usual.length)];
    }

    private void spoil(StringBuilder all) {
        int at = lot.below(all.length() + 1);
        switch (lot.below(4)) {
            case 0:
                all.insert(at, PIECES[lot.below(PIECES.length)]);
                break;
            case 1:
                all.setLength(at);
                break;
            case 2:
                all.delete(at, Math.min(all.length(), at + lot.from(1, 3)));
                break;
            default:
                all.append(PIECES[lot.below(PIECES.length)]);
                break;
        }
    }

    private String blank() {
        return lot.once(3) ? lot.once(3) ? "\n" : " " : "";
    }

    /** A blank that keeps two words apart, or none, where a word must not follow. */
    private String gap() {
        return lot.once(5) ? "\n" : " ";
    }

    private String either(int depth) {
        String all = both(depth);
        while (lot.once(6)) {
            all = all + gap() + "or" + gap() + both(depth);
        }
        return all;
    }

    private String both(int depth) {
        String all = not(depth);
        while (lot.once(6)) {
            all = all + gap() + "and" + gap() + not(depth);
        }
        return all;
    }

    private String not(int depth) {
        if (lot.once(7)) {
            return "not" + gap() + not(depth);
        }
        String left = sum(depth);
        return lot.once(4) ? left + blank() + (lot.once(2) ? "<" : "=") + blank() + sum(depth) : left;
    }

    private String sum(int depth) {
        String all = term(depth);
        while (lot.once(3)) {
            all = all + blank() + (lot.once(2) ? "+" : "-") + blank() + term(depth);
        }
        return all;
    }

    private String term(int depth) {
        String all = one(depth);
        while (lot.once(4)) {
            all = all + blank() + "*" + blank() + one(depth);
        }
        return all;
    }

    private String one(int depth) {
        int way = lot.below(10);
        if (way == 0) {
            return "-" + blank() + one(depth);
        }
        if (way <= 2 && depth > 0) {
            return "(" + blank() + either(depth - 1) + blank() + ")";
        }
        return way < 6 ? "" + (lot.once(4) ? lot.below(10000) : lot.below(70)) : NAMES[lot.below(NAMES.length)];
    }
}
