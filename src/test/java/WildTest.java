import java.lang.reflect.InvocationTargetException;
import java.lang.reflect.Method;
import java.lang.reflect.Modifier;
import java.util.ArrayList;
import java.util.Comparator;
import java.util.List;
import java.util.Random;

/** No call throws, whatever the numbers and the state; and two objects answer the same calls alike. */
public final class WildTest {
    private static final int[] EDGES = {
        Integer.MIN_VALUE, Integer.MAX_VALUE, -1, 0, 1, 2, 3, 7, 8, 15, 16, 31, 32, 60, 99, 100, 255, 256, 257,
        499, 500, 32000, 32001, -32000, -32001, 32767, -32768, 65535, 65536, 100000, -100000, 2000000, 10000
    };

    public static void main(String[] args) throws Exception {
        List<Method> methods = new ArrayList<>();
        for (Method m : LetterFoundry.class.getDeclaredMethods()) {
            if (Modifier.isPublic(m.getModifiers())) {
                methods.add(m);
            }
        }
        methods.sort(Comparator.comparing(Method::getName));
        for (int seed = 0; seed < 300; seed++) {
            wild(methods, new Random(seed));
        }
        Check.end();
    }

    private static void wild(List<Method> methods, Random random) throws Exception {
        LetterFoundry one = new LetterFoundry();
        LetterFoundry other = new LetterFoundry();
        for (int call = 0; call < 512; call++) {
            Method m = methods.get(random.nextInt(methods.size()));
            Object[] numbers = new Object[m.getParameterCount()];
            for (int k = 0; k < numbers.length; k++) {
                int edge = random.nextInt(20);
                numbers[k] = edge == 0 ? EDGES[random.nextInt(EDGES.length)] : random.nextInt(4);
            }
            Check.due(m.getName(), answer(m, one, numbers).equals(answer(m, other, numbers)), true);
        }
    }

    private static Object answer(Method m, LetterFoundry f, Object[] numbers) throws Exception {
        try {
            return m.invoke(f, numbers);
        } catch (InvocationTargetException e) {
            Check.due(m.getName() + " threw " + e.getCause(), true, false);
            return "threw";
        }
    }
}
