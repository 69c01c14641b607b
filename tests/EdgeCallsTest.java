import java.lang.reflect.Method;
import java.util.Arrays;
import java.util.Comparator;
import java.util.Random;

/**
 * Whatever the calls of an object's 512 are, none throws or fails to end, and the same calls give the same
 * answers: numbers at all edges and far beyond them, in objects that are empty, half full and full.
 */
public final class EdgeCallsTest {
    private static final Due DUE = new Due();
    private static final int RUNS = 200;
    private static final int CALLS = 512;
    private static final long MOST_SECONDS = 300;
    private static final int[] EDGES = {Integer.MIN_VALUE, Integer.MIN_VALUE + 1, Integer.MIN_VALUE / 2, -1000, -41,
        -40, -24, -21, -2, -1, 0, 1, 2, 3, 4, 5, 6, 7, 8, 9, 10, 11, 12, 19, 20, 21, 22, 23, 24, 25, 32, 39, 40, 41, 59,
        98, 99, 100, 159, 160, 161, 255, 256, 32767, 32768, 65535, 65536, 16777215, 16777216, Integer.MAX_VALUE / 2,
        Integer.MAX_VALUE - 1, Integer.MAX_VALUE};
    private static final String LETTERS = "falls harms wakes rain hour not and or 1 9 ( ) ; + - * < = \n ";

    private final Random random;
    private final Method[] methods;

    private EdgeCallsTest(int run) {
        random = new Random(run);
        methods = UnderTheRoof.class.getDeclaredMethods();
        Arrays.sort(methods, Comparator.comparing(Method::getName));
    }

    public static void main(String[] args) {
        long start = System.nanoTime();
        for (int run = 0; run < RUNS; run++) {
            DUE.same("run " + run + ", once more", new EdgeCallsTest(run).answers(run),
                new EdgeCallsTest(run).answers(run));
        }
        for (Method method : new EdgeCallsTest(0).methods) {
            alone(method);
        }
        long seconds = (System.nanoTime() - start) / 1000000000L;
        DUE.holds("all calls end: " + seconds + " s", seconds < MOST_SECONDS);
        DUE.end("EdgeCallsTest");
    }

    private static boolean isOfFace(Method method) {
        return java.lang.reflect.Modifier.isPublic(method.getModifiers());
    }

    /** One call after the other; an exception ends the test. */
    private long[] answers(int run) {
        UnderTheRoof x = new UnderTheRoof();
        long[] answers = new long[CALLS];
        int n = 0;
        if (run % 3 > 0) {
            n = furnished(x, run % 3);
        }
        while (n < CALLS) {
            Method method = methods[random.nextInt(methods.length)];
            if (isOfFace(method)) {
                answers[n] = Script.answer(x, method, numbers(method));
                n++;
            }
        }
        return answers;
    }

    /** Half as much as there can be, or all. */
    private int furnished(UnderTheRoof x, int much) {
        int n = 0;
        for (int i = 0; i < 3 * much; i++) {
            x.drip(random.nextInt(6), random.nextInt(100), random.nextInt(8));
            n++;
        }
        for (int i = 0; i < 2 * much + 1; i++) {
            x.vessel(1 + random.nextInt(99));
            x.put(i, random.nextInt(8));
            n += 2;
        }
        for (int hour = 0; hour < 24; hour++) {
            x.set(0, hour, random.nextInt(10));
            n++;
        }
        for (int sheet = 0; sheet < 2 * much; sheet++) {
            x.sheet(sheet, random.nextInt(3), much == 1 ? 2 * much + 1 : 40);
            n++;
        }
        return n;
    }

    private Object[] numbers(Method method) {
        Object[] numbers = new Object[method.getParameterCount()];
        for (int i = 0; i < numbers.length; i++) {
            numbers[i] = method.getName().equals("feed") && random.nextInt(8) > 0
                ? (int) LETTERS.charAt(random.nextInt(LETTERS.length())) : number();
        }
        return numbers;
    }

    private int number() {
        int which = random.nextInt(8);
        return which == 0 ? random.nextInt() : which < 4 ? EDGES[random.nextInt(EDGES.length)] : random.nextInt(9) - 1;
    }

    /** Each call with each edge in each place, beside small numbers, on a new and on a furnished object. */
    private static void alone(Method method) {
        if (!isOfFace(method)) {
            return;
        }
        for (int much = 0; much < 3; much++) {
            for (int i = 0; i < method.getParameterCount(); i++) {
                for (int edge : EDGES) {
                    for (int other = -1; other <= 1; other++) {
                        EdgeCallsTest run = new EdgeCallsTest(much);
                        UnderTheRoof x = new UnderTheRoof();
                        if (much > 0) {
                            run.furnished(x, much);
                        }
                        Object[] numbers = new Object[method.getParameterCount()];
                        Arrays.fill(numbers, other);
                        numbers[i] = edge;
                        long once = Script.answer(x, method, numbers);
                        Script.answer(x, method, numbers);
                        DUE.holds(method.getName() + Arrays.toString(numbers), once >= UnderTheRoof.NO);
                    }
                }
            }
        }
    }
}
