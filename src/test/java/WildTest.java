import java.lang.reflect.InvocationTargetException;
import java.lang.reflect.Method;
import java.lang.reflect.Modifier;
import java.util.ArrayList;
import java.util.Arrays;
import java.util.Comparator;
import java.util.List;
import java.util.Random;

/**
 * Any calls with any arguments in any order: what is thrown must be of the very classes that the document names for
 * the call (what the machine throws is of others), and must be thrown by HeapWorks itself; the same calls on another
 * object must answer the same.
 */
public final class WildTest {
    private static final int[] ODD = {Integer.MIN_VALUE, Integer.MAX_VALUE, -1, -2, 0, 1, 2, 3, 4, 5, 12, 15, 16, 20, 24, 28,
        29, 30, 31, 45, 46, 60, 61, 100, 107, 108, 199, 200, 255, 399, 400, 3999, 4000, 8000, 1 << 16, 65, 1 << 30};
    private static final String[] WORDS = {"all", "own", "things", "thing", "where", "get", "and", "or", "not", "null", "true",
        "false", "is", "in", "count", "sum", "most", "least", "some", "each", "size", "kept", "depth", "length", "class",
        "slots", "held", "from", "it", "if", "link", "A", "B", "x", "y", "7", "0", "(", ")", "[", "]", ",", ":", ";", ".",
        "=", "!=", "<", "<=", ">", ">=", "+", "-", "*", "/", "%", "@", "!", "p(x)", "link(x,y)", "count(x in things", "it.x"};

    public static void main(String[] args) throws Exception {
        List<Method> face = new ArrayList<>();
        for (Method m : HeapWorks.class.getDeclaredMethods()) {
            if (Modifier.isPublic(m.getModifiers())) {
                face.add(m);
            }
        }
        face.sort(Comparator.comparing(Method::getName));
        int runs = args.length > 0 ? Integer.parseInt(args[0]) : 1500;
        for (int seed = 0; seed < runs; seed++) {
            run(face, seed);
        }
        Check.done("WildTest");
    }

    private static void run(List<Method> face, int seed) throws Exception {
        Random random = new Random(seed);
        HeapWorks one = new HeapWorks();
        HeapWorks other = new HeapWorks();
        for (int calls = 0; calls < 512; calls++) {
            if (random.nextInt(4) == 0) {
                feed(one, other, random);
                continue;
            }
            Method m = face.get(random.nextInt(face.size()));
            if (m.getName().equals("collect") && random.nextInt(8) > 0) {
                continue;
            }
            Object[] args = new Object[m.getParameterCount()];
            for (int k = 0; k < args.length; k++) {
                args[k] = some(m.getParameterTypes()[k], random);
            }
            String got = outcome(one, m, args);
            String again = outcome(other, m, args);
            Check.same(m.getName() + Arrays.toString(args) + " " + got + " / " + again, got.equals(again), true);
        }
    }

    private static Object some(Class<?> type, Random random) {
        if (type == boolean.class) {
            return random.nextInt(3) > 0;
        }
        int small = random.nextInt(4) > 0 ? random.nextInt(6) : ODD[random.nextInt(ODD.length)];
        if (type == int.class) {
            return small;
        }
        return random.nextInt(5) > 0 ? small : random.nextLong() >> random.nextInt(64);
    }

    private static void feed(HeapWorks one, HeapWorks other, Random random) {
        StringBuilder s = new StringBuilder();
        int words = 1 + random.nextInt(5);
        for (int k = 0; k < words; k++) {
            s.append(WORDS[random.nextInt(WORDS.length)]).append(random.nextInt(4) > 0 && words > 1 ? " " : "");
        }
        byte[] b = Arrays.copyOf(s.toString().getBytes(), 20);
        int[] f = new int[5];
        for (int k = 0; k < 20; k++) {
            f[k / 4] |= (b[k] & 255) << (24 - k % 4 * 8);
        }
        boolean wipe = random.nextBoolean();
        int n = Math.min(20, s.length());
        for (HeapWorks x : new HeapWorks[] {one, other}) {
            if (wipe) {
                x.wipe();
            }
            x.feed(f[0], f[1], f[2], f[3], f[4]);
            x.end(n);
        }
    }

    private static String outcome(HeapWorks on, Method m, Object[] args) throws Exception {
        try {
            return String.valueOf(m.invoke(on, args));
        } catch (InvocationTargetException e) {
            Throwable t = e.getCause();
            boolean named = false;
            for (Class<?> c : m.getExceptionTypes()) {
                named |= c == t.getClass();
            }
            boolean own = t.getStackTrace().length > 0 && t.getStackTrace()[0].getClassName().startsWith("HeapWorks");
            if (!named || !own) {
                t.printStackTrace();
            }
            Check.same(m.getName() + Arrays.toString(args) + " throws " + t, named && own, true);
            return "throws " + t.getClass();
        }
    }
}
