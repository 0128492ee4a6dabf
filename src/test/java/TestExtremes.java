import java.lang.reflect.InvocationTargetException;
import java.lang.reflect.Method;
import java.lang.reflect.Modifier;
import java.util.Arrays;
import java.util.List;
import java.util.function.Supplier;

/** No call throws, whatever its numbers, on a card of nothing, of some, of all, of none that fits. */
public final class TestExtremes {
    private static final int[] NUMBERS = {Integer.MIN_VALUE, -1, 0, 1, 9, 64, Integer.MAX_VALUE};
    private static final int MOST_CALLS = 100;

    private TestExtremes() {
    }

    public static void main(String[] args) throws IllegalAccessException {
        for (Supplier<CardNobodyReads> made : List.<Supplier<CardNobodyReads>>of(Cards::blank, Cards::half,
                Cards::full, Cards::none)) {
            for (Method method : CardNobodyReads.class.getDeclaredMethods()) {
                if (Modifier.isPublic(method.getModifiers())) {
                    all(made, method);
                }
            }
        }
        Check.end();
    }

    /** All ways to give the numbers to a method; where it takes many, every seventh. */
    private static void all(Supplier<CardNobodyReads> made, Method method) throws IllegalAccessException {
        int n = method.getParameterCount();
        int ways = (int) Math.pow(NUMBERS.length, n);
        int step = n > 4 ? 11 : 1;
        CardNobodyReads x = made.get();
        int calls = 0;
        for (int way = 0; way < ways; way += step) {
            Object[] numbers = new Object[n];
            int rest = way;
            for (int i = 0; i < n; i++) {
                numbers[i] = NUMBERS[rest % NUMBERS.length];
                rest /= NUMBERS.length;
            }
            if (calls >= MOST_CALLS) {
                x = made.get();
                calls = 0;
            }
            calls++;
            int thrown = 0;
            try {
                method.invoke(x, numbers);
            } catch (InvocationTargetException e) {
                thrown = 1;
            }
            Check.due(method.getName() + Arrays.toString(numbers) + " throws", thrown, 0);
        }
    }
}
