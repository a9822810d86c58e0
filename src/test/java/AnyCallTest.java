import java.lang.reflect.InvocationTargetException;
import java.lang.reflect.Method;
import java.lang.reflect.Modifier;
import java.util.Arrays;
import java.util.Comparator;
import java.util.List;
import java.util.Random;

/** Any numbers to any call in any state: nothing is thrown, the same calls get the same answers. */
public final class AnyCallTest {
    private static final int RUNS = 1500, CALLS = 512;
    private static final int[] EDGES = {Integer.MIN_VALUE, Integer.MIN_VALUE + 1, -1000, -41, -9, -1, 5, 6, 11, 12, 13,
        20, 21, 30, 31, 39, 40, 41, 59, 60, 61, 127, 128, 255, 256, 1 << 30, Integer.MAX_VALUE - 1, Integer.MAX_VALUE};
    private static final String[] LANES = {"h0023 i0512f0323 t0245s0097d0712", "d1199", "t0090 t0191", "i0000s0000",
        "f0019f1119f0559", "h0055h0155h0255h0355h0455h0555"};

    public static void main(String[] args) throws IllegalAccessException {
        List<Method> calls = Arrays.stream(AbsentPost.class.getDeclaredMethods())
            .filter(m -> Modifier.isPublic(m.getModifiers()))
            .sorted(Comparator.comparing(Method::getName)).toList();
        Check.due("calls", calls.size(), 41);
        for (int run = 0; run < RUNS; run++) {
            twice(calls, new Random(run), run);
        }
        Check.end();
    }

    /** The same calls on two objects, a third one by turns between them. */
    private static void twice(List<Method> calls, Random lot, int run) throws IllegalAccessException {
        AbsentPost one = new AbsentPost();
        AbsentPost other = new AbsentPost();
        AbsentPost between = Check.posted(LANES[0]);
        int used = 0;
        if (run % 4 > 0) {
            String lane = LANES[lot.nextInt(LANES.length)];
            Check.write(one, 0, lane);
            Check.write(other, 0, lane);
            used = lane.length() + 2;
            Check.due("post of " + lane, one.post(0), other.post(0));
        }
        int wide = 2 + lot.nextInt(13);
        for (int k = used; k < CALLS; k++) {
            Method call = calls.get(lot.nextInt(calls.size()));
            Object[] numbers = new Object[call.getParameterCount()];
            Arrays.setAll(numbers, i -> number(lot, wide));
            String what = "run " + run + ": " + call.getName() + Arrays.toString(numbers);
            long first = answer(what, call, one, numbers);
            if (lot.nextInt(4) == 0) {
                Method aside = calls.get(lot.nextInt(calls.size()));
                Object[] asides = new Object[aside.getParameterCount()];
                Arrays.setAll(asides, i -> number(lot, wide));
                answer(what + ", aside", aside, between, asides);
            }
            Check.due(what, answer(what, call, other, numbers), first);
        }
    }

    private static int number(Random lot, int wide) {
        int dice = lot.nextInt(40);
        return dice == 0 ? lot.nextInt() : dice < 4 ? EDGES[lot.nextInt(EDGES.length)] : lot.nextInt(wide);
    }

    private static long answer(String what, Method call, AbsentPost x, Object[] numbers) throws IllegalAccessException {
        try {
            return ((Number) call.invoke(x, numbers)).longValue();
        } catch (InvocationTargetException thrown) {
            Check.due(what + " threw " + thrown.getCause(), 1, 0);
            return 0;
        }
    }
}
