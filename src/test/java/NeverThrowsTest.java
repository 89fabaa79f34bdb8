import java.lang.reflect.InvocationTargetException;
import java.lang.reflect.Method;
import java.lang.reflect.Modifier;
import java.util.ArrayList;
import java.util.Arrays;
import java.util.Comparator;
import java.util.List;

/**
 * "No call may ever throw or fail to end, for any arguments in any state": every pair of edges in every call, without
 * a FIELD and with each, and long runs that go on far behind the 512th call.
 */
public final class NeverThrowsTest {
    private static final int LOW = Integer.MIN_VALUE, HIGH = Integer.MAX_VALUE;
    private static final int[] EDGES = {LOW, LOW + 1, -1000006, -1000001, -2, -1, 0, 1, 2, 3, 6, 7, 8, 15, 16, 17, 31, 32,
        49, 110, 126, 127, 150, 300, 9999, 46341, 65536, 99999, 1000000, 9999999, HIGH - 1, HIGH};
    private static final String[] FIELDS = {"", "a0,0+0@0", "a0,0+0@0;t0,0+0@0", "t31,31-99@9999;a0,0+99@0",
        "a0,0+0@0;t3,4+0@0;a31,0-9@7;a0,31+9@7;a31,31+99@9999;t1,1-99@0;a8,8+0@0",
        "t0,0+0@0;t1,1+0@0;t2,2+0@0;t3,3+0@0;a4,4+0@0;a5,5+0@0;a6,6+0@0"};
    private static final int LONG_RUN = 40000;

    private final Check check = new Check();
    private final List<Method> calls = new ArrayList<>();
    private long seed = 20261119;

    public static void main(String[] args) throws Exception {
        NeverThrowsTest test = new NeverThrowsTest();
        for (Method call : SlipRanges.class.getDeclaredMethods()) {
            if (Modifier.isPublic(call.getModifiers())) test.calls.add(call);
        }
        test.calls.sort(Comparator.comparing(Method::getName));
        for (String text : FIELDS) {
            test.edges(text);
            test.longRun(text);
        }
        test.check.end("NeverThrowsTest");
    }

    /** An object with that FIELD, a RANGE of each pair, SLOTS for each TAG, and letters on THE PAGE. */
    private static SlipRanges busy(String text) {
        SlipRanges ranges = new SlipRanges();
        Check.type(ranges, text);
        ranges.field();
        for (int tag = 0; tag < 7; tag++) {
            for (int anchor = 0; anchor < 7; anchor++) ranges.exchange(tag, anchor);
            ranges.want(tag, 4);
        }
        ranges.deal();
        Check.type(ranges, text);
        return ranges;
    }

    private void edges(String text) throws Exception {
        for (Method call : calls) {
            SlipRanges ranges = busy(text);
            int many = call.getParameterCount();
            Object[] numbers = new Object[many];
            Arrays.fill(numbers, 0);
            for (int one = 0; one < many; one++) {
                for (int other = one; other < many; other++) edgesAt(ranges, call, numbers, one, other);
            }
            if (many == 0) ends(ranges, call, numbers);
        }
    }

    private void edgesAt(SlipRanges ranges, Method call, Object[] numbers, int one, int other) throws Exception {
        for (int a : EDGES) {
            for (int b : EDGES) {
                numbers[one] = a;
                numbers[other] = b;
                ends(ranges, call, numbers);
            }
        }
        numbers[one] = 0;
        numbers[other] = 0;
    }

    private int below(int bound) {
        seed = seed * 6364136223846793005L + 1442695040888963407L;
        return (int) ((seed >>> 33) % bound);
    }

    private void longRun(String text) throws Exception {
        SlipRanges ranges = busy(text);
        for (int i = 0; i < LONG_RUN; i++) {
            Method call = calls.get(below(calls.size()));
            Object[] numbers = new Object[call.getParameterCount()];
            for (int k = 0; k < numbers.length; k++) numbers[k] = below(3) == 0 ? EDGES[below(EDGES.length)] : below(7);
            ends(ranges, call, numbers);
        }
    }

    private void ends(SlipRanges ranges, Method call, Object[] numbers) throws Exception {
        try {
            call.invoke(ranges, numbers);
        } catch (InvocationTargetException thrown) {
            check.holds(call.getName() + Arrays.toString(numbers) + " threw " + thrown.getCause(), false);
            return;
        }
        check.holds("ends", true);
    }
}
