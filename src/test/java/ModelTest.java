import java.util.ArrayList;
import java.util.List;
import java.util.Random;

/** Random runs, always the same ones, on the class and on the Model: every answer must be the same. */
public final class ModelTest {
    private static final int RUNS = 700;
    /** What an object answers to later calls is free. */
    private static final int LAST_CALL = 512;
    private static final int METHODS = 42;
    private static final String SIGNS = "lwohcp0123456789|&<=>+-*/%!()?;";

    private final Random random;
    private final SwitchboardHeart x = new SwitchboardHeart();
    private final Model m = new Model();
    private String said = "";
    private long got = 0;
    private long want = 0;
    private int calls = 0;

    private ModelTest(long seed) {
        random = new Random(seed);
    }

    public static void main(String[] args) {
        for (int run = 0; run < RUNS && Due.wrongSoFar() < 10; run++) {
            new ModelTest(run).run(run);
        }
        Due.end();
    }

    private void run(int run) {
        boolean few = run % 5 == 0;
        for (int i = 0; calls < LAST_CALL; i++) {
            if (i % 100 == 20) {
                tellText();
            }
            if (i % 60 == 10) {
                tellDay();
            }
            if (i == 9 && run % 3 > 0) {
                tellLikes();
            }
            if (i < 9 && !few) {
                line();
            } else {
                call(random.nextInt(METHODS), run % 7 == 6);
            }
            calls++;
            Due.due("run " + run + ", call " + i + ": " + said, got, want);
            if (got != want) {
                return;
            }
        }
    }

    /** Counts a call that only sets up; false if none but the one to be asked is left. */
    private boolean mayCall() {
        if (calls >= LAST_CALL - 1) {
            return false;
        }
        calls++;
        return true;
    }

    private void row(int shelf, int n) {
        if (mayCall()) {
            x.row(shelf, 0, n);
            m.row(shelf, 0, n);
        }
    }

    private void put(int shelf, int i, int v) {
        if (mayCall()) {
            x.put(shelf, i, v);
            m.put(shelf, i, v);
        }
    }

    private void mendFirst(int number, int what, int v) {
        if (mayCall()) {
            Due.due("mend(" + number + ", " + what + ", " + v + ")", x.mend(number, what, v), m.mend(number, what, v));
        }
    }

    private void line() {
        int warm = random.nextInt(100);
        answer("line", x.line(warm), m.line(warm), warm);
    }

    private void answer(String call, long has, long due, long... with) {
        said = call + java.util.Arrays.toString(with);
        got = has;
        want = due;
    }

    /** Random runs alone would seldom tell enough likings and party lines for pairs to be parted by them. */
    private void tellLikes() {
        int most = 1 + random.nextInt(9);
        for (int i = 0; i < 60; i++) {
            int ab = 10 * random.nextInt(8) + random.nextInt(8);
            int v = random.nextInt(2 * most + 1) - most;
            mendFirst(ab, 3, v);
        }
        for (int i = 0; i < 8; i++) {
            int v = Math.max(0, random.nextInt(7) - 3);
            mendFirst(i, 2, v);
        }
        int cords = 1 + random.nextInt(4);
        mendFirst(0, 4, cords);
    }

    /** A number mostly as it may be, at times one beside it, seldom a wild one. */
    private int number(int low, int high) {
        int way = random.nextInt(60);
        if (way == 0) {
            return low - 1;
        }
        if (way == 1) {
            return high + 1;
        }
        if (way == 2) {
            return random.nextInt();
        }
        if (way == 3) {
            int[] wild = {Integer.MIN_VALUE, Integer.MAX_VALUE, -1, -2, 0, -10, Integer.MAX_VALUE - 1};
            return wild[random.nextInt(wild.length)];
        }
        return low + random.nextInt(high - low + 1);
    }

    private int one() {
        int lines = m.count(0);
        return lines == 0 ? number(0, 7) : number(0, lines - 1);
    }

    private int pair() {
        return random.nextInt(40) == 0 ? number(0, 99) : 10 * one() + one();
    }

    private int shelf() {
        return number(0, 5);
    }

    /** Half of all texts are right, the others have one sign too many, too few or changed. */
    private void tellText() {
        StringBuilder text = new StringBuilder(text(1 + random.nextInt(4)));
        if (random.nextInt(2) == 0 && text.length() > 0) {
            int at = random.nextInt(text.length());
            char sign = random.nextInt(20) == 0 ? (char) random.nextInt(256) : SIGNS.charAt(random.nextInt(SIGNS.length()));
            switch (random.nextInt(4)) {
                case 0 -> text.setCharAt(at, sign);
                case 1 -> text.insert(at, sign);
                case 2 -> text.deleteCharAt(at);
                default -> text.setLength(at);
            }
        }
        for (int i = 0; i < text.length() && i < 120 && mayCall(); i++) {
            x.feed(text.charAt(i));
            m.feed(text.charAt(i));
        }
    }

    private String text(int lines) {
        StringBuilder text = new StringBuilder();
        for (int i = 0; i < lines; i++) {
            text.append(i == 0 ? "" : ";");
            if (random.nextInt(3) > 0) {
                text.append(expression(3, 2)).append('?');
            }
            text.append(expression(3, 2));
        }
        return text.toString();
    }

    private String expression(int deep, int most) {
        StringBuilder text = new StringBuilder(operand(deep));
        for (int i = random.nextInt(most + 1); i > 0; i--) {
            text.append("|&<=>+-*/%".charAt(random.nextInt(10))).append(operand(deep));
        }
        return text.toString();
    }

    private String operand(int deep) {
        int way = random.nextInt(12);
        if (way < 2 && deep > 0) {
            return "(" + expression(deep - 1, 2) + ")";
        }
        if (way == 2) {
            return (random.nextBoolean() ? "!" : "-") + operand(deep);
        }
        if (way < 6) {
            return String.valueOf(random.nextInt(random.nextInt(8) == 0 ? 10000 : 12));
        }
        return String.valueOf("lwohcp".charAt(random.nextInt(6)));
    }

    private void tellDay() {
        tellDay(random.nextInt(6));
    }

    /** Hours of few pairs; many hours have the pairs of the one ahead, told the same way or turned about. */
    private void tellDay(int shelf) {
        int n = random.nextInt(10) == 0 ? random.nextInt(3) : random.nextInt(61);
        row(shelf, n);
        List<Integer> hour = new ArrayList<>();
        List<Integer> told = new ArrayList<>();
        while (told.size() < n) {
            List<Integer> next = new ArrayList<>();
            for (int pair : hour) {
                if (random.nextInt(3) > 0) {
                    next.add(random.nextInt(3) == 0 && pair >= 0 ? pair % 10 * 10 + pair / 10 : pair);
                }
            }
            for (int more = random.nextInt(3); more > 0; more--) {
                next.add(random.nextInt(12) == 0 ? (int) (byte) random.nextInt() : 10 * line0() + line0());
            }
            hour = next;
            told.addAll(next);
            told.add(-1);
        }
        for (int i = 0; i < n; i++) {
            put(shelf, i, told.get(i));
        }
    }

    private int line0() {
        return random.nextInt(Math.max(1, m.count(0)));
    }

    /** Mostly a shelf that holds a day. */
    private int dayShelf() {
        if (random.nextInt(8) == 0) {
            return shelf();
        }
        int shelf = random.nextInt(6);
        if (random.nextInt(3) == 0 || m.have(shelf, 0, 0) < 0) {
            tellDay(shelf);
        }
        return shelf;
    }

    /** Mostly a pair that the day of a shelf tells. */
    private int pairOf(int shelf) {
        long told = random.nextInt(6) == 0 ? -1 : m.element(shelf, random.nextInt(12));
        return told < 0 || told > 77 ? pair() : (int) told;
    }

    /** Threes for lines(), most of them as they may be. */
    private void tellThrees(int shelf) {
        int n = random.nextInt(31);
        row(shelf, n);
        for (int i = 0; i < n; i++) {
            int v = random.nextInt(i % 3 == 2 ? 4 : 100);
            v = random.nextInt(25) == 0 ? random.nextInt(256) : v;
            put(shelf, i, v);
        }
    }

    /** A row of bytes with what WARM could be behind this hour, so that which() finds ways. */
    private void tellWarm(int shelf) {
        int lines = m.count(0);
        int n = random.nextInt(lines + 2);
        row(shelf, n);
        int cold = m.of(0, 5);
        for (int i = 0; i < n; i++) {
            int other = lines > 1 ? (i ^ 1) : 0;
            int by = i < lines && other < lines && random.nextInt(3) > 0 ? m.warmer(10 * i + other, 0) : -cold;
            int warm = i < lines ? Math.max(0, Math.min(99, m.of(i, 0) + (by == Model.VOID ? 1 : by))) : random.nextInt(100);
            put(shelf, i, warm);
        }
    }

    private void call(int method, boolean wild) {
        if (method < 8) {
            callLines(method, wild);
        } else if (method < 16) {
            callThought(method);
        } else if (method < 23) {
            callReadBack(method);
        } else if (method < 31) {
            callDeeds(method);
        } else {
            callShelves(method);
        }
    }

    private void callLines(int method, boolean wild) {
        int shelf = shelf();
        int i = number(0, 59);
        int n = number(1, 8);
        int v = number(-9, 99);
        int letter = random.nextInt(30) == 0 ? number(0, 255) : SIGNS.charAt(random.nextInt(SIGNS.length()));
        switch (method) {
            case 0 -> answer("line", x.line(v), m.line(v), v);
            case 1 -> {
                if (shelf >= 0 && shelf < 6 && m.count(0) < 8) {
                    tellThrees(shelf);
                }
                int from = random.nextBoolean() ? 0 : random.nextInt(4) == 0 ? i : 3;
                answer("lines", x.lines(shelf, from, n), m.lines(shelf, from, n), shelf, from, n);
            }
            case 2, 3 -> {
                int what = number(0, 5);
                int number = what < 3 ? one() : what == 3 ? pair() : number(0, 0);
                int to = what == 2 ? number(0, 3) : what == 3 ? number(-9, 9) : what == 4 ? number(0, 4)
                    : what == 5 ? number(0, 9) : number(0, 99);
                answer("mend", x.mend(number, what, to), m.mend(number, what, to), number, what, to);
            }
            case 4 -> {
                int what = number(0, 7);
                int number = what == 3 ? pair() : what == 4 || what == 5 ? number(0, 0) : one();
                answer("of", x.of(number, what), m.of(number, what), number, what);
            }
            case 5 -> {
                // tapes must end at times as they were told, so that texts are right
                if (wild) {
                    answer("feed", x.feed(letter), m.feed(letter), letter);
                } else {
                    answer("feed", x.feed(-1 - letter), m.feed(-1 - letter), -1 - letter);
                }
            }
            case 6 -> answer("law", x.law(), m.law());
            default -> {
                int ab = pair();
                int h = number(0, 99);
                answer("warmer", x.warmer(ab, h), m.warmer(ab, h), ab, h);
            }
        }
    }

    private void callThought(int method) {
        int shelf = method < 13 ? dayShelf() : shelf();
        int n = random.nextBoolean() ? number(0, 60) : number(0, 8);
        int one = one();
        int ab = pair();
        int k = number(-1, 4);
        switch (method) {
            case 8 -> answer("later", x.later(shelf, n, one), m.later(shelf, n, one), shelf, n, one);
            case 9 -> {
                int what = number(0, 1);
                answer("have", x.have(shelf, n, what), m.have(shelf, n, what), shelf, n, what);
            }
            case 10 -> {
                int few = number(0, 6);
                int two = pairOf(shelf);
                answer("through", x.through(shelf, few, two), m.through(shelf, few, two), shelf, few, two);
            }
            case 11 -> answer("idle", x.idle(shelf, n, one), m.idle(shelf, n, one), shelf, n, one);
            case 12 -> {
                int other = random.nextInt(3) == 0 ? -1 : one();
                int few = number(0, 12);
                answer("news", x.news(shelf, few, one, other), m.news(shelf, few, one, other), shelf, few, one, other);
            }
            case 13 -> {
                int what = number(0, 1);
                answer("best", x.best(what, k), m.best(what, k), what, k);
            }
            case 14 -> answer("stable", x.stable(k), m.stable(k), k);
            default -> answer("soon", x.soon(ab), m.soon(ab), ab);
        }
    }

    private void callReadBack(int method) {
        int shelf = method == 20 || method == 22 ? dayShelf() : shelf();
        int n = number(0, 12);
        int ab = pair();
        if (method < 20 && method > 16 && shelf >= 0 && shelf < 6 && random.nextInt(3) > 0) {
            tellWarm(shelf);
        }
        switch (method) {
            case 16 -> answer("instead", x.instead(ab), m.instead(ab), ab);
            case 17 -> {
                int k = number(-1, 4);
                answer("which", x.which(shelf, k), m.which(shelf, k), shelf, k);
            }
            case 18 -> answer("sure", x.sure(shelf), m.sure(shelf), shelf);
            case 19 -> answer("lamp", x.lamp(shelf), m.lamp(shelf), shelf);
            case 20 -> {
                int two = ab;
                for (int more = 0; more < 20 && m.cut(shelf, n, two) == 0; more++) {
                    two = pair();
                }
                answer("cut", x.cut(shelf, n, two), m.cut(shelf, n, two), shelf, n, two);
            }
            case 21 -> answer("first", x.first(), m.first());
            default -> {
                int skill = number(0, 12);
                int v = random.nextInt(8) == 0 ? number(0, 500) : nearSum(shelf, skill);
                int part = number(0, 1);
                answer("nieces", x.nieces(shelf, skill, v, part), m.nieces(shelf, skill, v, part), shelf, skill, v, part);
            }
        }
    }

    /** A sum at which the odds are neither 0 nor 1, if there is one near. */
    private int nearSum(int shelf, int skill) {
        int sum = 0;
        for (int i = 0; i < m.count(0); i++) {
            sum += m.of(i, 0);
        }
        int from = sum - 40 + random.nextInt(20);
        for (int v = from; v < from + 90; v++) {
            long above = m.nieces(shelf, skill, v, 0);
            if (above > 1 || (above == 1 && m.nieces(shelf, skill, v, 1) > 1)) {
                return v;
            }
        }
        return sum - 20 + random.nextInt(40);
    }

    /** Mostly a pair that is in. */
    private int pairIn() {
        int one = line0();
        int other = m.of(one, 6);
        return other < 0 || random.nextInt(4) == 0 ? pair() : 10 * one + other;
    }

    private void callDeeds(int method) {
        int ab = method == 25 && random.nextInt(3) == 0 ? pairIn() : pair();
        switch (method) {
            case 23 -> {
                int seed = random.nextInt();
                int nm = random.nextInt(20) == 0 ? number(0, 2200) : 100 * number(1, 20) + number(1, 60);
                int what = number(0, 1);
                answer("drawn", x.drawn(seed, nm, what), m.drawn(seed, nm, what), seed, nm, what);
            }
            case 24 -> answer("putIn", x.putIn(ab), m.putIn(ab), ab);
            case 25 -> answer("pull", x.pull(ab), m.pull(ab), ab);
            case 26 -> answer("hour", x.hour(), m.hour());
            case 27 -> {
                int what = number(0, 4);
                answer("led", x.led(what), m.led(what), what);
            }
            case 28 -> {
                if (random.nextInt(3) == 0) {
                    answer("image", x.image(), m.image());
                } else {
                    answer("hour", x.hour(), m.hour());
                }
            }
            case 29 -> {
                if (random.nextInt(3) == 0) {
                    answer("back", x.back(), m.back());
                } else {
                    answer("putIn", x.putIn(ab), m.putIn(ab), ab);
                }
            }
            default -> {
                for (int more = random.nextInt(8) == 0 ? random.nextInt(9) : 0; more > 0 && mayCall(); more--) {
                    Due.due("undo, one of many", x.undo(), m.undo());
                }
                if (random.nextInt(3) > 0) {
                    answer("undo", x.undo(), m.undo());
                } else {
                    answer("redo", x.redo(), m.redo());
                }
            }
        }
    }

    private void callShelves(int method) {
        int shelf = shelf();
        int i = number(0, 20);
        switch (method) {
            case 31 -> answer("redo", x.redo(), m.redo());
            case 32 -> {
                int kind = number(0, 7);
                answer("body", x.body(kind), m.body(kind), kind);
            }
            case 33 -> {
                int body = number(0, Math.max(0, m.count(4) - 1));
                int act = number(0, 3);
                int with = random.nextInt(3) == 0 ? random.nextInt() : number(-9, 9);
                answer("act", x.act(body, act, with), m.act(body, act, with), body, act, with);
            }
            case 34 -> {
                int few = number(0, 9);
                int body = number(0, Math.max(0, m.count(4) - 1));
                if (mayCall()) {
                    Due.due("act ahead of trace", x.act(body, few % 4, i), m.act(body, few % 4, i));
                }
                answer("trace", x.trace(few), m.trace(few), few);
            }
            case 35 -> {
                int body = number(-1, Math.max(0, m.count(4) - 1));
                answer("keep", x.keep(shelf, body), m.keep(shelf, body), shelf, body);
            }
            case 36 -> {
                int sort = random.nextBoolean() ? 0 : number(0, 4);
                int n = number(0, 60);
                answer("row", x.row(shelf, sort, n), m.row(shelf, sort, n), shelf, sort, n);
            }
            case 37 -> {
                long v = random.nextInt(3) == 0 ? random.nextLong() : number(-1, 77);
                answer("put", x.put(shelf, i, v), m.put(shelf, i, v), shelf, i, v);
            }
            case 38 -> answer("element", x.element(shelf, i), m.element(shelf, i), shelf, i);
            case 39 -> {
                int other = random.nextBoolean() ? shelf : shelf();
                int j = number(0, 20);
                int n = number(0, 20);
                answer("shift", x.shift(shelf, i, other, j, n), m.shift(shelf, i, other, j, n), shelf, i, other, j, n);
            }
            case 40 -> {
                int k = number(0, 7);
                if (random.nextInt(3) > 0 && m.count(4) > 0 && shelf >= 0 && shelf < 6 && mayCall()) {
                    int body = random.nextInt(m.count(4));
                    Due.due("keep ahead of taken", x.keep(shelf, body), m.keep(shelf, body));
                }
                answer("taken", x.taken(shelf, k), m.taken(shelf, k), shelf, k);
            }
            default -> {
                int what = number(0, 5);
                answer("count", x.count(what), m.count(what), what);
            }
        }
    }
}
