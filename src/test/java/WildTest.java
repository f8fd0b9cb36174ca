import java.lang.reflect.InvocationTargetException;
import java.lang.reflect.Method;
import java.lang.reflect.Modifier;
import java.util.Arrays;
import java.util.NoSuchElementException;
import java.util.Random;

/** Calls with any arguments in any state: nothing is thrown but what promise 7 says. */
public final class WildTest {
    private static final int RUNS = 600;
    private static final int CALLS = 512;
    private static final int[] EDGES = {Integer.MIN_VALUE, Integer.MIN_VALUE + 1, -1000000, -241, -25, -2, -1, 0, 1, 2, 3, 4, 5, 6, 7, 8, 9, 10, 11,
        12, 23, 24, 25, 31, 32, 33, 40, 48, 60, 61, 99, 100, 239, 240, 241, 255, 256, 9999, 99999, 1 << 16, 1 << 30, Integer.MAX_VALUE};

    public static void main(String[] args) throws IllegalAccessException {
        Due due = new Due("wild");
        Method[] face = Arrays.stream(SunDesk.class.getDeclaredMethods()).filter(m -> Modifier.isPublic(m.getModifiers()))
            .sorted((a, b) -> a.getName().compareTo(b.getName())).toArray(Method[]::new);
        Random chance = new Random(3);
        Texts texts = new Texts(3);
        for (int run = 0; run < RUNS; run++) {
            SunDesk x = new SunDesk();
            for (int call = 0; call < CALLS; call++) {
                if (chance.nextInt(12) == 0) {
                    int sort = chance.nextInt(3);
                    Due.text(x, sort, texts.any(sort));
                }
                wild(due, x, face[chance.nextInt(face.length)], chance);
            }
        }
        due.close();
    }

    private static void wild(Due due, SunDesk x, Method m, Random chance) throws IllegalAccessException {
        Object[] values = new Object[m.getParameterCount()];
        for (int i = 0; i < values.length; i++) {
            int kind = chance.nextInt(6);
            int v = kind == 0 ? chance.nextInt() : kind < 3 ? EDGES[chance.nextInt(EDGES.length)] : chance.nextInt(8) - 1;
            if (m.getParameterTypes()[i] == long.class) {
                values[i] = (long) v << chance.nextInt(33);
            } else {
                values[i] = v;
            }
        }
        String thrown = "nothing";
        try {
            m.invoke(x, values);
        } catch (InvocationTargetException e) {
            boolean told = e.getCause() instanceof NoSuchElementException && m.getName().equals("parish");
            thrown = told ? "nothing" : "" + e.getCause();
        }
        due.same(m.getName() + Arrays.toString(values) + " throws", thrown, "nothing");
    }
}
