/** Numbers that look drawn by lot but are the same in every run of the tests. */
final class Lot {
    private long state;

    Lot(long seed) {
        state = seed * 2862933555777941757L + 3037000493L;
    }

    /** 0 .. n - 1. */
    int below(int n) {
        state = state * 6364136223846793005L + 1442695040888963407L;
        return (int) Long.remainderUnsigned(state >>> 24, n);
    }

    int from(int low, int high) {
        return low + below(high - low + 1);
    }

    boolean once(int in) {
        return below(in) == 0;
    }

    /** Mostly low .. high, now and then next to it or far away. */
    int near(int low, int high) {
        switch (below(40)) {
            case 0:
                return low - 1;
            case 1:
                return high + 1;
            case 2:
                return once(4) ? Integer.MIN_VALUE : once(3) ? Integer.MAX_VALUE : from(-1000, 1000);
            case 3:
                return high;
            default:
                return high < low ? low : from(low, high);
        }
    }
}
