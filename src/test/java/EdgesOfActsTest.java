/** The edges of bodies and their acts: Terms 5, promises 33 to 35 and 41. */
public final class EdgesOfActsTest extends Board {
    private static final int KINDS = 8;
    /** The trace of each kind's four acts, by the document's bodies of acts. */
    private static final int[][][] TRACES = {
        {{1}, {10, 1}, {11}, {2, 10, 1, 11}},
        {{20, 1}, {10, 20, 1}, {11}, {2, 10, 20, 1, 11}},
        {{1}, {30, 10, 1}, {11}, {2, 30, 10, 1, 11}},
        {{1}, {41, 30, 10, 1}, {40, 11}, {2, 41, 30, 10, 1, 40, 11}},
        {{20, 1}, {10, 20, 1}, {11}, {50, 2, 10, 20, 1, 11}},
        {{1}, {41, 30, 10, 1}, {60, 40, 11, 1}, {61, 2, 41, 30, 10, 1, 60, 40, 11, 1}},
        {{70, 1}, {10, 70, 1}, {11}, {2, 10, 70, 1, 11}},
        {{81, 70, 1}, {80, 10, 81, 70, 1, 11}, {11}, {2, 80, 10, 81, 70, 1, 11, 11}},
    };

    private EdgesOfActsTest() {
    }

    public static void main(String[] args) {
        fiftyBodies();
        kinds();
        acts();
        intsThatWrap();
        actsOfTheLastBody();
        noSuchBodyOrAct();
        noTraceThen();
        traces();
        traceOfTheLatest();
        bodiesThatRan();
        taken();
        takenRefused();
        Due.end();
    }

    /** 50 bodies, of the kinds in order, from one kind on. */
    private static SwitchboardHeart bodies(int firstKind) {
        SwitchboardHeart x = new SwitchboardHeart();
        for (int i = 0; i < 50; i++) {
            x.body((firstKind + i) % KINDS);
        }
        return x;
    }

    private static void fiftyBodies() {
        sentence("BODIES 0 .. 49 are kept by call");
        for (int kind = 0; kind < KINDS; kind++) {
            SwitchboardHeart x = new SwitchboardHeart();
            for (int i = 0; i < 50; i++) {
                due("count(4)", x.count(4), i);
                due("body(" + kind + ")", x.body(kind), i);
            }
            due("one too many", x.body(kind), FULL);
            due("count(4)", x.count(4), 50);
        }
    }

    private static void kinds() {
        sentence("A BODY of a KIND (0 .. 7) is kept: its number. BAD, FULL.");
        SwitchboardHeart x = new SwitchboardHeart();
        refusedOutside("body(..)", 0, 7, BAD, x::body);
        due("none is kept", x.count(4), 0);
        due("the first kind", x.body(0), 0);
        due("the last kind", x.body(7), 1);
        SwitchboardHeart y = bodies(0);
        due("FULL", y.body(0), FULL);
        refusedOutside("BAD ahead of FULL, body(..)", 0, 7, BAD, y::body);
    }

    /** What the documents bodies of acts come to, kind by kind. */
    private static int worth(int kind, int act, int n, int x) {
        int crossed = kind == 3 ? 3 * (1 ^ n) : kind == 5 ? 3 * (1 ^ n) - (2 + n) : 1 ^ n;
        switch (act) {
            case 0: return kind == 1 || kind == 4 ? x + n + 3 : kind == 6 ? 2 * (x + n) : kind == 7 ? 2 * (x + n) - 1 : x + n;
            case 1: return waited(kind, n, x);
            case 2: return kind == 3 ? 3 * (x ^ n) : kind == 5 ? 3 * (x ^ n) - (2 + n) : x ^ n;
            default:
                int told = waited(kind, n, x) - crossed;
                return kind == 4 ? told ^ 5 : kind == 5 ? told + 1 : told;
        }
    }

    private static int waited(int kind, int n, int x) {
        switch (kind) {
            case 0: return 2 * (x + n);
            case 1:
            case 4: return 2 * (x + n + 3);
            case 2: return -2 * (x + n);
            case 3:
            case 5: return -2 * (x + 1 + n);
            case 6: return 4 * (x + n);
            default: return 2 * (2 * (x + n) - 1) + (2 ^ n);
        }
    }

    private static void actsWith(SwitchboardHeart x, int body, int kind, int... numbers) {
        for (int act = 0; act < 4; act++) {
            for (int v : numbers) {
                due("kind " + kind + ", act(" + body + ", " + act + ", " + v + ")", x.act(body, act, v), worth(kind, act, body, v));
            }
        }
    }

    private static void acts() {
        sentence("ACTS with x (an int that wraps): 0 warms, 1 waits, 2 crosses, 3 tells; n its number.");
        SwitchboardHeart x = bodies(0);
        for (int body = 0; body < 16; body++) {
            actsWith(x, body, body % KINDS, 0, 1, -1, 5, -77);
        }
    }

    private static void intsThatWrap() {
        sentence("x (an int that wraps)");
        SwitchboardHeart x = bodies(1);
        int[] wild = {LEAST, LEAST + 1, LEAST + 8, MOST, MOST - 1, MOST - 8, 1 << 30, -(1 << 30), 0x55555555, 715827883};
        for (int body = 0; body < KINDS; body++) {
            actsWith(x, body, (1 + body) % KINDS, wild);
        }
        SwitchboardHeart y = new SwitchboardHeart();
        y.body(0);
        y.body(0);
        due("warms at the most", y.act(1, 0, MOST), LEAST);
        due("waits at the least", y.act(0, 1, LEAST), 0);
        due("waits at the most", y.act(0, 1, MOST), -2);
        due("crosses at the least", y.act(1, 2, LEAST), LEAST + 1);
    }

    private static void actsOfTheLastBody() {
        sentence("n its number");
        for (int kind = 0; kind < KINDS; kind++) {
            SwitchboardHeart x = bodies(kind);
            actsWith(x, 0, kind, 0, 5, LEAST, MOST);
            actsWith(x, 49, (kind + 49) % KINDS, 0, 5, LEAST, MOST);
        }
    }

    private static void noSuchBodyOrAct() {
        sentence("An ACT (0 .. 3) of a BODY with x. 0, and no TRACE then: no such BODY, ACT.");
        SwitchboardHeart x = bodies(0);
        refusedOutside("act(.., 0, 5)", 0, 49, 0, body -> x.act(body, 0, 5));
        refusedOutside("act(1, .., 5)", 0, 3, 0, act -> x.act(1, act, 5));
        refusedOutside("act(.., 4, 5)", 0, 49, 0, body -> x.act(body, 4, 5));
        SwitchboardHeart y = new SwitchboardHeart();
        due("without bodies", y.act(0, 0, 5), 0);
        y.body(0);
        due("the first", y.act(0, 0, 5), 5);
        due("the next is not there yet", y.act(1, 0, 5), 0);
        y.body(0);
        due("now it is", y.act(1, 0, 5), 6);
    }

    private static void noTraceThen() {
        sentence("0, and no TRACE then");
        int[][] wrong = {{-1, 0}, {50, 0}, {LEAST, 0}, {MOST, 0}, {7, -1}, {7, 4}, {7, LEAST}, {7, MOST}};
        SwitchboardHeart x = bodies(0);
        for (int[] one : wrong) {
            due("ahead", x.act(7, 3, 5), worth(7, 3, 7, 5));
            due("ran", x.count(5), 8);
            due("act(" + one[0] + ", " + one[1] + ", 5)", x.act(one[0], one[1], 5), 0);
            due("none ran", x.count(5), 0);
            due("no TRACE", x.trace(0), BAD);
            due("no TRACE", x.trace(7), BAD);
        }
    }

    private static void traces() {
        sentence("THE TRACE: numbers of the bodies that ran in the latest act(), as they began; the first 24 are kept.");
        for (int kind = 0; kind < KINDS; kind++) {
            SwitchboardHeart x = bodies(kind);
            for (int act = 0; act < 4; act++) {
                int[] want = TRACES[kind][act];
                x.act(0, act, 5);
                for (int i = 0; i < want.length; i++) {
                    due("kind " + kind + ", act " + act + ", place " + i, x.trace(i), want[i]);
                }
                refusedOutside("kind " + kind + ", act " + act + ", trace(..)", 0, want.length - 1, BAD, x::trace);
                due("place 23", x.trace(23), BAD);
                due("place 24", x.trace(24), BAD);
            }
        }
    }

    private static void traceOfTheLatest() {
        sentence("THE TRACE's i-th body. BAD.");
        SwitchboardHeart x = bodies(0);
        due("ahead of any act", x.trace(0), BAD);
        x.act(5, 3, 1);
        due("the tenth", x.trace(9), 1);
        x.act(0, 2, 1);
        due("of the latest", x.trace(0), 11);
        due("no second", x.trace(1), BAD);
        due("no tenth", x.trace(9), BAD);
        x.body(0);
        x.taken(0, 0);
        x.hour();
        due("of the latest still", x.trace(0), 11);
    }

    private static void bodiesThatRan() {
        sentence("5 bodies that ran in the latest act() (all, kept or not)");
        due("ahead of any act", new SwitchboardHeart().count(5), 0);
        for (int kind = 0; kind < KINDS; kind++) {
            SwitchboardHeart x = bodies(kind);
            for (int act = 0; act < 4; act++) {
                x.act(0, act, MOST);
                due("kind " + kind + ", act " + act, x.count(5), TRACES[kind][act].length);
            }
        }
    }

    private static void taken() {
        sentence("What a SHELF holds, taken for a BODY of KIND k (0 .. 7), or under it: its KIND. BAD, -11, -12.");
        int[][] under = {{0}, {1, 0}, {2, 0}, {3, 2, 0}, {4, 1, 0}, {5, 3, 2, 0}, {6, 0}, {7, 6, 0}};
        SwitchboardHeart x = bodies(0);
        for (int kind = 0; kind < KINDS; kind++) {
            x.keep(kind % 6, 40 + kind);
            for (int k = 0; k < KINDS; k++) {
                boolean is = false;
                for (int above : under[kind]) {
                    is |= above == k;
                }
                due("kind " + kind + " for " + k, x.taken(kind % 6, k), is ? kind : OTHER_KIND);
            }
        }
    }

    private static void takenRefused() {
        sentence("taken for a BODY of KIND k (0 .. 7)");
        SwitchboardHeart x = bodies(0);
        x.keep(0, 0);
        refusedOutside("taken(0, ..)", 0, 7, BAD, k -> x.taken(0, k));
        refusedOutside("taken(.., 0)", 0, 5, BAD, shelf -> x.taken(shelf, 0));
        for (int shelf = 1; shelf < 6; shelf++) {
            due("nothing on " + shelf, x.taken(shelf, 0), NOTHING);
            due("BAD ahead of -11", x.taken(shelf, 8), BAD);
        }
        for (int sort = 0; sort < 5; sort++) {
            x.row(5, sort, 1);
            due("a row of sort " + sort, x.taken(5, 0), OTHER_KIND);
            due("BAD ahead of -12", x.taken(5, -1), BAD);
        }
        x.row(5, 0, 0);
        due("a row without elements", x.taken(5, 0), OTHER_KIND);
        due("a body of another kind", x.taken(0, 1), OTHER_KIND);
        x.keep(0, -1);
        due("nothing again", x.taken(0, 0), NOTHING);
    }
}
