import java.lang.reflect.InvocationTargetException;
import java.lang.reflect.Method;
import java.lang.reflect.Modifier;
import java.util.ArrayList;
import java.util.Comparator;
import java.util.List;
import java.util.Random;

/**
 * Every call with wild arguments, on objects that are used far longer than the document promises: none may throw, and a
 * refusal changes nothing but what fault() answers.
 */
public final class NeverThrowsTest {
    private static final int[] WILD = {Integer.MIN_VALUE, Integer.MIN_VALUE + 1, -10000, -2, -1, 0, 1, 2, 3, 4, 5, 6, 7, 8,
        9, 10, 11, 12, 15, 16, 20, 59, 60, 61, 99, 100, 115, 255, 256, 511, 512, 999, 1000, 9999, 10000, 99999, 100000,
        999999, 1000000, 1 << 29, 1 << 30, Integer.MAX_VALUE - 1, Integer.MAX_VALUE};
    private static int wrong = 0;

    public static void main(String[] args) throws IllegalAccessException {
        List<Method> calls = new ArrayList<>();
        for (Method m : PedlarBook.class.getDeclaredMethods()) if (Modifier.isPublic(m.getModifiers())) calls.add(m);
        calls.sort(Comparator.comparing(Method::getName));
        for (int seed = 0; seed < 60 && wrong == 0; seed++) run(calls, new Random(seed), seed);
        System.out.println(wrong == 0 ? "no call throws, no refusal changes anything" : wrong + " calls are wrong");
        if (wrong != 0) System.exit(1);
    }

    private static void run(List<Method> calls, Random random, int seed) throws IllegalAccessException {
        PedlarBook book = new PedlarBook();
        for (int n = 0; n < 3000 && wrong == 0; n++) {
            Method call = calls.get(random.nextInt(calls.size()));
            Object[] arguments = new Object[call.getParameterCount()];
            for (int k = 0; k < arguments.length; k++) {
                int mild = random.nextInt(4);
                arguments[k] = seed % 3 > 0 && random.nextInt(6) > 0 ? mild : WILD[random.nextInt(WILD.length)];
            }
            boolean look = n % 8 == 0;
            String before = look ? state(book) : "";
            try {
                long answer = ((Number) call.invoke(book, arguments)).longValue();
                boolean refused = answer < 0 && !call.getName().equals("trace") && !call.getName().equals("cell");
                if (look && refused && !before.equals(state(book))) fail(seed, n, call, arguments, "changed the object");
            } catch (InvocationTargetException thrown) {
                fail(seed, n, call, arguments, "threw " + thrown.getCause());
            }
        }
    }

    private static void fail(int seed, int n, Method call, Object[] arguments, String what) {
        wrong++;
        System.out.println("seed " + seed + ", call " + n + ": " + call.getName() + java.util.Arrays.toString(arguments)
            + " " + what);
    }

    /** What can be asked of the object without changing it (show and tell would leave a trace). */
    private static String state(PedlarBook book) {
        StringBuilder all = new StringBuilder();
        int trace = book.trace();
        all.append(trace).append(' ').append(book.ruin()).append(' ').append(book.best(0)).append(' ').append(book.best(1));
        for (int what = 0; what < 10; what++) all.append(' ').append(book.many(what));
        for (int e = 0; e < book.many(5); e++) {
            for (int what = 0; what < 6; what++) all.append(' ').append(book.told(e, what));
            for (int who = -1; who < book.many(1); who++) all.append(' ').append(book.known(e, who));
        }
        for (int x = 0; x < book.many(7); x++) {
            for (int what = 0; what < 8; what++) all.append(' ').append(book.due(x, what));
        }
        for (int by = 0; by < 10; by++) {
            for (int to = 0; to < 10; to++) all.append(' ').append(book.owes(by, to)).append(' ').append(book.pays(by, to));
        }
        for (int p = 0; p < book.many(4); p++) all.append(' ').append(book.credit(p, 9999)).append(' ').append(book.unallowed(p));
        for (int r = 0; r < book.many(8); r++) all.append(' ').append(book.two(r)).append(' ').append(book.holder(r, 0));
        for (int land = 0; land < 6; land++) {
            for (int letter = 0; letter < 4; letter++) all.append(' ').append(book.why(letter, 0, land, 3));
        }
        return all.toString();
    }
}
