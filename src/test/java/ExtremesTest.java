import java.lang.reflect.InvocationTargetException;
import java.lang.reflect.Method;
import java.util.ArrayList;
import java.util.Arrays;
import java.util.Comparator;
import java.util.List;
import java.util.Random;

/** No call throws, whatever its arguments and the state. */
public final class ExtremesTest {
    private static final int RUNS = 300;
    private static final int CALLS = 512;
    private static final long[] WILD = {
        0, 1, -1, 2, -2, 7, 8, -8, 9, 10, 59, 60, 61, 99, 100, 119, 120, 127, 128, 255, 256, -10, -11, -100,
        Integer.MAX_VALUE, Integer.MIN_VALUE, Integer.MAX_VALUE - 1, Integer.MIN_VALUE + 1, Integer.MAX_VALUE - 2,
        Integer.MAX_VALUE / 3, 1L << 40, Long.MAX_VALUE, Long.MIN_VALUE,
    };

    private ExtremesTest() {
    }

    public static void main(String[] args) throws IllegalAccessException {
        List<Method> face = new ArrayList<>();
        for (Method method : SwitchboardHeart.class.getDeclaredMethods()) {
            if (java.lang.reflect.Modifier.isPublic(method.getModifiers())) {
                face.add(method);
            }
        }
        face.sort(Comparator.comparing(Method::getName));
        Due.due("methods of the face", face.size(), 41);
        for (int run = 0; run < RUNS; run++) {
            wildRun(face, new Random(run));
        }
        Due.end();
    }

    private static void wildRun(List<Method> face, Random random) throws IllegalAccessException {
        SwitchboardHeart x = new SwitchboardHeart();
        for (int i = 0; i < CALLS; i++) {
            Method method = face.get(random.nextInt(face.size()));
            Object[] with = new Object[method.getParameterCount()];
            for (int p = 0; p < with.length; p++) {
                long v = random.nextInt(3) > 0 ? random.nextInt(12) - 2 : WILD[random.nextInt(WILD.length)];
                v = random.nextInt(40) == 0 ? random.nextLong() : v;
                with[p] = method.getParameterTypes()[p] == long.class ? (Object) v : (Object) (int) v;
            }
            String threw = "";
            try {
                method.invoke(x, with);
            } catch (InvocationTargetException e) {
                threw = String.valueOf(e.getCause());
            }
            Due.dueTrue(method.getName() + Arrays.toString(with) + " ends without " + threw, threw.isEmpty());
        }
    }
}
