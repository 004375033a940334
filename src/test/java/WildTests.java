import java.lang.reflect.InvocationTargetException;
import java.lang.reflect.Method;
import java.lang.reflect.Modifier;
import java.util.ArrayList;
import java.util.Arrays;
import java.util.Comparator;
import java.util.List;
import java.util.Random;

/**
 * Any arguments in any state, far beyond 512 calls: whatever is answered then, nothing but the exceptions that a call
 * names ever reaches its caller.
 */
public final class WildTests {
    private static final int BOOKS = 12;
    private static final int CALLS = 40000;
    private static final int[] EDGES = {Integer.MIN_VALUE, Integer.MIN_VALUE + 1, -100001, -10, -9, -2, -1, 40, 59, 60,
        99, 100, 149, 150, 199, 200, 201, 2999, 3000, 3001, 9999, 10000, 100000, Integer.MAX_VALUE - 20,
        Integer.MAX_VALUE};
    private static final String[] LINES = {"Q {1@1=1}<E1>{1@1=2}\n", "A {1@1=2}{1@1=1}\n", "Y <E1>\n", "N n\n",
        "  {1@1=1}{1@1=3}\n", "! E1\n", "! E1 E2\n", "! E2 E1\n", "Q {12345@\n", "! X", "\u0080\u00ff{<>}"};

    private final Trial trial;
    private final Random random;
    private final TestimonyBook book = new TestimonyBook();
    private final List<Method> face = new ArrayList<>();

    private WildTests(Trial trial, long seed) {
        this.trial = trial;
        random = new Random(seed);
        for (Method method : TestimonyBook.class.getDeclaredMethods()) {
            if (Modifier.isPublic(method.getModifiers())) {
                face.add(method);
            }
        }
        // Reflection promises no order; the runs are to be the same each time.
        face.sort(Comparator.comparing(Method::getName));
    }

    public static void main(String[] args) throws Exception {
        Trial trial = new Trial();
        for (int seed = 0; seed < BOOKS; seed++) {
            WildTests one = new WildTests(trial, seed);
            if (seed % 2 == 1) {
                one.fill();
            }
            for (int call = 0; call < CALLS; call++) {
                one.any();
            }
            trial.due("lines came to book " + seed, one.book.count(0) > 0 ? 1 : 0, 1);
        }
        trial.finish();
    }

    /** Nearly as many lines as there may be, and all exhibits. */
    private void fill() {
        StringBuilder names = new StringBuilder();
        for (int i = 0; i < 20; i++) {
            names.append("! E").append(i).append('\n');
        }
        Trial.sit(book, names.toString());
        Trial.sit(book, Trial.times("Q <E1>{1@1=1}\nN n\n", 84));
    }

    private void any() throws Exception {
        if (random.nextInt(4) == 0) {
            text();
            return;
        }
        Method method = face.get(random.nextInt(face.size()));
        Object[] arguments = new Object[method.getParameterCount()];
        for (int i = 0; i < arguments.length; i++) {
            arguments[i] = random.nextInt(4) == 0 ? EDGES[random.nextInt(EDGES.length)] : random.nextInt(12);
        }
        call(method, arguments);
    }

    /** A text that may be good, taken whole or in part. */
    private void text() throws Exception {
        StringBuilder text = new StringBuilder();
        int pieces = 1 + random.nextInt(random.nextInt(20) == 0 ? 60 : 4);
        for (int i = 0; i < pieces; i++) {
            text.append(LINES[random.nextInt(random.nextInt(5) == 0 ? LINES.length : 6)]);
        }
        boolean right = random.nextBoolean();
        String fed = right ? text.substring(2).replace('\n', ' ') : text.toString();
        Trial.feed(book, fed);
        int n = random.nextInt(5) == 0 ? random.nextInt(70) : fed.length();
        call(right ? TestimonyBook.class.getMethod("right", int.class, int.class)
                : TestimonyBook.class.getMethod("sitting", int.class),
                right ? new Object[] {random.nextInt(12), n} : new Object[] {n});
    }

    private void call(Method method, Object[] arguments) throws Exception {
        try {
            method.invoke(book, arguments);
        } catch (InvocationTargetException e) {
            boolean named = Arrays.asList(method.getExceptionTypes()).contains(e.getCause().getClass());
            trial.due(method.getName() + Arrays.toString(arguments) + " threw " + e.getCause(), named ? 1 : 0, 1);
        }
    }
}
