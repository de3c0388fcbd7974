import java.lang.reflect.InvocationTargetException;
import java.lang.reflect.Method;
import java.util.ArrayList;
import java.util.Arrays;
import java.util.Comparator;
import java.util.List;
import java.util.Random;

/** No call throws, whatever its arguments and the state; and what is refused changes nothing. */
public final class ExtremesTest {
    private static final int RUNS = 300;
    private static final int CALLS = 512;
    private static final long[] WILD = {
        0, 1, -1, 2, -2, 7, 8, -8, 9, 10, 59, 60, 61, 99, 100, 119, 120, 127, 128, 255, 256, -10, -11, -100,
        Integer.MAX_VALUE, Integer.MIN_VALUE, Integer.MAX_VALUE - 1, Integer.MIN_VALUE + 1, Integer.MAX_VALUE - 2,
        Integer.MAX_VALUE / 3, 1L << 40, Long.MAX_VALUE, Long.MIN_VALUE,
    };

    private ExtremesTest() {
    }

    public static void main(String[] args) throws IllegalAccessException {
        List<Method> face = new ArrayList<>();
        for (Method method : SwitchboardHeart.class.getDeclaredMethods()) {
            if (java.lang.reflect.Modifier.isPublic(method.getModifiers())) {
                face.add(method);
            }
        }
        face.sort(Comparator.comparing(Method::getName));
        Due.due("methods of the face", face.size(), 41);
        for (int run = 0; run < RUNS; run++) {
            wildRun(face, new Random(run));
        }
        refusalsChangeNothing();
        Due.end();
    }

    private static void wildRun(List<Method> face, Random random) throws IllegalAccessException {
        SwitchboardHeart x = new SwitchboardHeart();
        for (int i = 0; i < CALLS; i++) {
            Method method = face.get(random.nextInt(face.size()));
            Object[] with = new Object[method.getParameterCount()];
            for (int p = 0; p < with.length; p++) {
                long v = random.nextInt(3) > 0 ? random.nextInt(12) - 2 : WILD[random.nextInt(WILD.length)];
                v = random.nextInt(40) == 0 ? random.nextLong() : v;
                with[p] = method.getParameterTypes()[p] == long.class ? (Object) v : (Object) (int) v;
            }
            String threw = "";
            try {
                method.invoke(x, with);
            } catch (InvocationTargetException e) {
                threw = String.valueOf(e.getCause());
            }
            Due.dueTrue(method.getName() + Arrays.toString(with) + " ends without " + threw, threw.isEmpty());
        }
    }

    /** A board with something in every part of it. */
    private static SwitchboardHeart full() {
        SwitchboardHeart x = new SwitchboardHeart();
        for (int i = 0; i < 8; i++) {
            x.line(10 * i);
        }
        for (int i = 0; i < 50; i++) {
            x.body(i % 8);
        }
        x.mend(12, 3, 7);
        x.mend(3, 2, 2);
        x.undo();
        x.feed('l');
        x.feed('+');
        x.row(0, 0, 4);
        x.put(0, 0, 12);
        x.row(1, 3, 4);
        x.keep(2, 5);
        x.putIn(12);
        x.hour();
        x.image();
        x.act(5, 3, 9);
        return x;
    }

    private static String told(SwitchboardHeart x) {
        StringBuilder all = new StringBuilder();
        for (int i = -1; i < 100; i++) {
            for (int what = 0; what < 8; what++) {
                all.append(x.of(i, what)).append(' ');
            }
            all.append(x.count(i)).append(' ').append(x.led(i)).append(' ').append(x.trace(i)).append(' ');
            for (int shelf = 0; shelf < 6; shelf++) {
                all.append(x.element(shelf, i)).append(' ').append(x.taken(shelf, 0)).append(' ');
            }
        }
        return all.toString();
    }

    private static void refusalsChangeNothing() {
        SwitchboardHeart x = full();
        String before = told(x);
        Due.due("line, full", x.line(5), SwitchboardHeart.FULL);
        Due.due("line, bad and full", x.line(100), SwitchboardHeart.BAD);
        Due.due("lines, of another kind", x.lines(1, 0, 1), -12);
        Due.due("lines, of a body", x.lines(2, -1, 1), -12);
        Due.due("lines, full", x.lines(0, 0, 1), 0);
        Due.due("mend, too warm", x.mend(0, 0, 100), SwitchboardHeart.VOID);
        Due.due("mend, no such line", x.mend(8, 0, 1), SwitchboardHeart.VOID);
        Due.due("mend, the same", x.mend(0, 5, 2), 2);
        Due.due("feed, no byte", x.feed(256), SwitchboardHeart.BAD);
        Due.due("putIn, through", x.putIn(23), SwitchboardHeart.STATE);
        Due.due("pull, not in", x.pull(13), SwitchboardHeart.STATE);
        Due.due("body, full", x.body(0), SwitchboardHeart.FULL);
        Due.due("body, bad and full", x.body(8), SwitchboardHeart.BAD);
        Due.due("keep, no such body", x.keep(2, 50), SwitchboardHeart.BAD);
        Due.due("row, too small", x.row(0, 0, -1), -14);
        Due.due("row, too large", x.row(0, 0, 61), SwitchboardHeart.BAD);
        Due.due("put, no place", x.put(0, 4, 1), -13);
        Due.due("put, a body", x.put(2, 0, 1), -12);
        Due.due("put, nothing", x.put(3, 0, 1), -11);
        Due.due("shift, no place", x.shift(0, 2, 0, 0, 3), -13);
        x.later(0, 60, 0);
        x.news(0, 60, 0, 1);
        x.best(0, 0);
        x.stable(0);
        x.soon(12);
        x.which(0, 0);
        x.cut(0, 60, 12);
        x.nieces(0, 6, 100, 0);
        x.drawn(5, 2060, 0);
        x.warmer(12, 99);
        Due.dueTrue("all is as before", before.equals(told(x)));
        Due.due("redo, still there", x.redo(), 0);
    }
}
