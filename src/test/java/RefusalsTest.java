import java.util.ArrayList;
import java.util.List;
import java.util.function.ToLongFunction;

/** Which answer comes first where two refusals meet, and that what is answered so changes nothing. */
public final class RefusalsTest extends Board {
    private RefusalsTest() {
    }

    public static void main(String[] args) {
        constants();
        lineRefusals();
        mendRefusals();
        tapeRefusals();
        dayRefusals();
        wayRefusals();
        readBackRefusals();
        deedRefusals();
        bodyRefusals();
        shelfRefusals();
        emptyRefusals();
        thoughtChangesNothing();
        memoryOfItsOwn();
        pairsOfLines();
        Due.end();
    }

    /** A board on which every part is full, or has something to lose. */
    private static SwitchboardHeart full() {
        SwitchboardHeart x = new SwitchboardHeart();
        for (int i = 0; i < 8; i++) {
            x.line(10 * i + 7);
        }
        for (int i = 0; i < 50; i++) {
            x.body(i % 8);
        }
        tell(x, "h*3+l");
        x.mend(12, 3, 7);
        x.mend(3, 2, 2);
        x.mend(0, 5, 4);
        x.undo();
        x.row(0, 0, 6);
        x.put(0, 0, 12);
        x.put(0, 1, -1);
        x.put(0, 2, 3);
        x.row(1, 3, 4);
        x.put(1, 3, Long.MAX_VALUE);
        x.keep(2, 5);
        x.row(3, 0, 0);
        x.row(5, 4, 2);
        x.putIn(12);
        x.hour();
        x.image();
        x.putIn(30);
        x.hour();
        x.act(5, 3, 9);
        for (int i = 0; i < 120; i++) {
            x.feed("1+".charAt(i % 2));
        }
        return x;
    }

    /** All that a board answers, its laws and changes last, as asking for these changes it; within its 512 calls. */
    private static List<Long> allOf(SwitchboardHeart x) {
        List<Long> all = new ArrayList<>();
        for (int one = 0; one < 8; one++) {
            for (int what : new int[] {0, 1, 2, 6, 7}) {
                all.add((long) x.of(one, what));
            }
            all.add((long) x.of(10 * one + (one + 1) % 8, 3));
        }
        all.add((long) x.of(0, 4));
        all.add((long) x.of(0, 5));
        all.add((long) x.warmer(12, 2));
        for (int i = 0; i < 6; i++) {
            all.add((long) x.count(i));
            all.add((long) x.led(i));
        }
        for (int i = 0; i < 11; i++) {
            all.add((long) x.trace(i));
        }
        for (int shelf = 0; shelf < 6; shelf++) {
            all.add((long) x.taken(shelf, 0));
            for (int i = 0; i < 7; i++) {
                all.add(x.element(shelf, i));
            }
        }
        all.add((long) x.law());
        all.add((long) x.warmer(12, 2));
        for (int i = 0; i < 3; i++) {
            all.add((long) x.redo());
            all.add((long) x.of(0, 5));
        }
        for (int i = 0; i < 4; i++) {
            all.add((long) x.undo());
        }
        all.add((long) x.back());
        all.add((long) x.of(3, 0));
        all.add((long) x.of(3, 6));
        all.add((long) x.body(0));
        all.add((long) x.line(1));
        return all;
    }

    private static void refused(String call, ToLongFunction<SwitchboardHeart> asked, long answer) {
        refusedOn(call, full(), full(), asked, answer);
    }

    private static void refusedOn(String call, SwitchboardHeart x, SwitchboardHeart twin,
            ToLongFunction<SwitchboardHeart> asked, long answer) {
        due(call, asked.applyAsLong(x), answer);
        alike(call, x, twin);
    }

    private static void unchanged(String call, ToLongFunction<SwitchboardHeart> asked) {
        SwitchboardHeart x = full();
        asked.applyAsLong(x);
        alike(call, x, full());
    }

    /** Two boards that were alike are so still, though one of them was asked. */
    private static void alike(String call, SwitchboardHeart x, SwitchboardHeart twin) {
        Due.dueTrue(call + " changes nothing", allOf(x).equals(allOf(twin)));
    }

    private static void constants() {
        sentence("public static final int BAD = -1, NOT = -2, FULL = -3, STATE = -5, VOID = -2000000000;");
        due("BAD", SwitchboardHeart.BAD, BAD);
        due("NOT", SwitchboardHeart.NOT, NOT);
        due("FULL", SwitchboardHeart.FULL, FULL);
        due("STATE", SwitchboardHeart.STATE, STATE);
        due("VOID", SwitchboardHeart.VOID, VOID);
    }

    private static void lineRefusals() {
        sentence("Answers, of several the one named first: BAD (-1): no such number, or it is not as said; NOT (-2): as told; FULL (-3); STATE (-5): as told; -11 to -14.");
        refused("line(5)", x -> x.line(5), FULL);
        refused("line(-1), BAD ahead of FULL", x -> x.line(-1), BAD);
        refused("line(100), BAD ahead of FULL", x -> x.line(100), BAD);
        refused("lines(0, 0, 1)", x -> x.lines(0, 0, 1), 0);
        refused("lines(4, 0, 1), missing", x -> x.lines(4, 0, 1), 0);
        refused("lines(1, 0, 1), longs", x -> x.lines(1, 0, 1), OTHER_KIND);
        refused("lines(2, 0, 1), a body", x -> x.lines(2, 0, 1), OTHER_KIND);
        refused("lines(2, -1, 1), -12 ahead of the place", x -> x.lines(2, -1, 1), OTHER_KIND);
        refused("lines(2, 0, 9), BAD ahead of -12", x -> x.lines(2, 0, 9), BAD);
        refused("lines(4, 0, 0), BAD ahead of missing", x -> x.lines(4, 0, 0), BAD);
        refused("lines(6, -1, 1)", x -> x.lines(6, -1, 1), BAD);
    }

    private static void mendRefusals() {
        sentence("VOID is -2000000000. What is answered so changes nothing.");
        refused("mend(0, 0, 100)", x -> x.mend(0, 0, 100), VOID);
        refused("mend(0, 0, -1)", x -> x.mend(0, 0, -1), VOID);
        refused("mend(8, 0, 5)", x -> x.mend(8, 0, 5), VOID);
        refused("mend(0, 1, 100)", x -> x.mend(0, 1, 100), VOID);
        refused("mend(0, 2, 4)", x -> x.mend(0, 2, 4), VOID);
        refused("mend(12, 3, 10)", x -> x.mend(12, 3, 10), VOID);
        refused("mend(11, 3, 1)", x -> x.mend(11, 3, 1), VOID);
        refused("mend(0, 4, 5)", x -> x.mend(0, 4, 5), VOID);
        refused("mend(1, 4, 1)", x -> x.mend(1, 4, 1), VOID);
        refused("mend(0, 5, 10)", x -> x.mend(0, 5, 10), VOID);
        refused("mend(0, 6, 1)", x -> x.mend(0, 6, 1), VOID);
        refused("mend(0, 7, 1)", x -> x.mend(0, 7, 1), VOID);
        refused("mend(0, -1, 1)", x -> x.mend(0, -1, 1), VOID);
        refused("mend(0, 5, 2), the same", x -> x.mend(0, 5, 2), 2);
        refused("of(8, 0)", x -> x.of(8, 0), VOID);
        refused("of(8, 6)", x -> x.of(8, 6), VOID);
        refused("of(4, 6), NOT", x -> x.of(4, 6), NOT);
        refused("of(0, 8)", x -> x.of(0, 8), VOID);
        refused("warmer(11, 0)", x -> x.warmer(11, 0), VOID);
        refused("warmer(12, 100)", x -> x.warmer(12, 100), VOID);
    }

    private static void tapeRefusals() {
        sentence("A byte (0 .. 255) comes to THE TAPE: how many it has. BAD, FULL (120).");
        refused("feed('1')", x -> x.feed('1'), FULL);
        refused("feed(256), BAD ahead of FULL", x -> x.feed(256), BAD);
        refused("feed(-1), BAD ahead of FULL", x -> x.feed(-1), BAD);
    }

    private static void dayRefusals() {
        sentence("a DAY in thought (on a SHELF; BAD, -11, -12 (no ROW of bytes))");
        refused("later(4, 61, 0), BAD ahead of -11", x -> x.later(4, 61, 0), BAD);
        refused("later(2, 0, 8), BAD ahead of -12", x -> x.later(2, 0, 8), BAD);
        refused("later(6, 0, 0)", x -> x.later(6, 0, 0), BAD);
        refused("later(4, 0, 0)", x -> x.later(4, 0, 0), NOTHING);
        refused("later(2, 0, 0)", x -> x.later(2, 0, 0), OTHER_KIND);
        refused("have(4, -1, 0), BAD ahead of -11", x -> x.have(4, -1, 0), BAD);
        refused("have(1, 0, 2), BAD ahead of -12", x -> x.have(1, 0, 2), BAD);
        refused("have(1, 0, 1)", x -> x.have(1, 0, 1), OTHER_KIND);
        refused("through(4, 0, 11), BAD ahead of -11", x -> x.through(4, 0, 11), BAD);
        refused("through(5, 0, 12)", x -> x.through(5, 0, 12), OTHER_KIND);
        refused("idle(4, 61, 0), BAD ahead of -11", x -> x.idle(4, 61, 0), BAD);
        refused("idle(4, 60, 0)", x -> x.idle(4, 60, 0), NOTHING);
        refused("news(4, 0, 8, -1), BAD ahead of -11", x -> x.news(4, 0, 8, -1), BAD);
        refused("news(2, 0, 0, 8), BAD ahead of -12", x -> x.news(2, 0, 0, 8), BAD);
        refused("news(2, 61, 0, 0), BAD ahead of -12", x -> x.news(2, 61, 0, 0), BAD);
        refused("news(4, 0, 0, 1)", x -> x.news(4, 0, 0, 1), NOTHING);
        refused("news(3, 0, 0, 1), NOT", x -> x.news(3, 0, 0, 1), NOT);
    }

    private static void wayRefusals() {
        sentence("Pairs (k) count from 0.");
        refused("best(2, 9), BAD ahead of NOT", x -> x.best(2, 9), BAD);
        refused("best(0, -2)", x -> x.best(0, -2), BAD);
        refused("best(0, 4), NOT", x -> x.best(0, 4), NOT);
        refused("stable(-2)", x -> x.stable(-2), BAD);
        refused("stable(4), NOT", x -> x.stable(4), NOT);
        refused("soon(11)", x -> x.soon(11), BAD);
        refused("instead(8)", x -> x.instead(8), BAD);
    }

    private static void readBackRefusals() {
        sentence("---- read back, cut.");
        refused("which(4, -2), BAD ahead of -11", x -> x.which(4, -2), BAD);
        refused("which(4, 9)", x -> x.which(4, 9), NOTHING);
        refused("which(2, 9)", x -> x.which(2, 9), OTHER_KIND);
        refused("which(0, 0), NOT", x -> x.which(0, 0), NOT);
        refused("sure(4)", x -> x.sure(4), NOTHING);
        refused("sure(2)", x -> x.sure(2), OTHER_KIND);
        refused("lamp(-1)", x -> x.lamp(-1), BAD);
        refused("lamp(4)", x -> x.lamp(4), NOTHING);
        refused("lamp(1)", x -> x.lamp(1), OTHER_KIND);
        refused("lamp(0), NOT", x -> x.lamp(0), NOT);
        refused("cut(4, 0, 11), BAD ahead of -11", x -> x.cut(4, 0, 11), BAD);
        refused("cut(1, 61, 12), BAD ahead of -12", x -> x.cut(1, 61, 12), BAD);
        refused("cut(4, 0, 12)", x -> x.cut(4, 0, 12), NOTHING);
        refused("cut(2, 0, 12)", x -> x.cut(2, 0, 12), OTHER_KIND);
        refused("nieces(4, 6, 0, 0)", x -> x.nieces(4, 6, 0, 0), NO_LONG);
        refused("nieces(2, 6, 0, 0)", x -> x.nieces(2, 6, 0, 0), NO_LONG);
        refused("nieces(0, 13, 0, 0)", x -> x.nieces(0, 13, 0, 0), NO_LONG);
        refused("nieces(0, 6, 0, 2)", x -> x.nieces(0, 6, 0, 2), NO_LONG);
        refused("drawn(1, 2061, 0)", x -> x.drawn(1, 2061, 0), BAD);
        refused("drawn(1, 101, 2)", x -> x.drawn(1, 101, 2), BAD);
    }

    private static void deedRefusals() {
        sentence("BAD; STATE: one of them is through, or no CORD is left.");
        refused("putIn(11), BAD ahead of STATE", x -> x.putIn(11), BAD);
        refused("putIn(18), BAD ahead of STATE", x -> x.putIn(18), BAD);
        refused("putIn(21)", x -> x.putIn(21), STATE);
        refused("putIn(14)", x -> x.putIn(14), STATE);
        refused("putIn(45), no CORD", x -> x.putIn(45), STATE);
        refused("pull(11), BAD ahead of STATE", x -> x.pull(11), BAD);
        refused("pull(13)", x -> x.pull(13), STATE);
        refused("pull(45)", x -> x.pull(45), STATE);
        refused("led(5)", x -> x.led(5), BAD);
        refused("led(-1)", x -> x.led(-1), BAD);
    }

    private static void bodyRefusals() {
        sentence("A BODY of a KIND (0 .. 7) is kept: its number. BAD, FULL.");
        refused("body(8), BAD ahead of FULL", x -> x.body(8), BAD);
        refused("body(-1), BAD ahead of FULL", x -> x.body(-1), BAD);
        refused("body(0)", x -> x.body(0), FULL);
        refused("trace(10)", x -> x.trace(10), BAD);
        refused("trace(-1)", x -> x.trace(-1), BAD);
        refused("taken(4, 8), BAD ahead of -11", x -> x.taken(4, 8), BAD);
        refused("taken(1, -1), BAD ahead of -12", x -> x.taken(1, -1), BAD);
        refused("taken(4, 0)", x -> x.taken(4, 0), NOTHING);
        refused("taken(1, 0)", x -> x.taken(1, 0), OTHER_KIND);
        refused("taken(2, 4)", x -> x.taken(2, 4), OTHER_KIND);
        refused("count(6)", x -> x.count(6), BAD);
        refused("count(-1)", x -> x.count(-1), BAD);
    }

    private static void shelfRefusals() {
        sentence("The host's REFUSALS: -11 nothing is there where something is wanted; -12 it is of another kind; -13 a place that is not there; -14 a size below 0.");
        refused("keep(2, 50)", x -> x.keep(2, 50), BAD);
        refused("keep(2, -2)", x -> x.keep(2, -2), BAD);
        refused("keep(6, 0)", x -> x.keep(6, 0), BAD);
        refused("row(0, 5, 1)", x -> x.row(0, 5, 1), BAD);
        refused("row(0, 0, 61)", x -> x.row(0, 0, 61), BAD);
        refused("row(0, 0, -1)", x -> x.row(0, 0, -1), SIZE_BELOW_0);
        refused("row(0, 5, -1), BAD ahead of -14", x -> x.row(0, 5, -1), BAD);
        refused("row(6, 0, -1), BAD ahead of -14", x -> x.row(6, 0, -1), BAD);
        refused("put(6, 9, 1), BAD ahead of -13", x -> x.put(6, 9, 1), BAD);
        refused("put(4, 9, 1), -11 ahead of -13", x -> x.put(4, 9, 1), NOTHING);
        refused("put(2, 9, 1), -12 ahead of -13", x -> x.put(2, 9, 1), OTHER_KIND);
        refused("put(0, 6, 1)", x -> x.put(0, 6, 1), NO_PLACE);
        refused("put(3, 0, 1)", x -> x.put(3, 0, 1), NO_PLACE);
        refused("element(0, 6)", x -> x.element(0, 6), NO_LONG);
        refused("shift(4, 0, 6, 0, 0), BAD ahead of -11", x -> x.shift(4, 0, 6, 0, 0), BAD);
        refused("shift(2, 0, 4, 0, 0), -11 ahead of -12", x -> x.shift(2, 0, 4, 0, 0), NOTHING);
        refused("shift(0, 0, 1, 9, 0), -12 ahead of -13", x -> x.shift(0, 0, 1, 9, 0), OTHER_KIND);
        refused("shift(0, 0, 0, 2, 5)", x -> x.shift(0, 0, 0, 2, 5), NO_PLACE);
        refused("shift(0, 0, 3, 0, 1)", x -> x.shift(0, 0, 3, 0, 1), NO_PLACE);
        refused("shift(0, 1, 0, 0, -1)", x -> x.shift(0, 1, 0, 0, -1), NO_PLACE);
    }

    private static void emptyRefusals() {
        sentence("STATE: there is none.");
        refusedOn("back()", townOf(3, 50), townOf(3, 50), x -> x.back(), STATE);
        refusedOn("undo()", townOf(3, 50), townOf(3, 50), x -> x.undo(), STATE);
        refusedOn("redo()", townOf(3, 50), townOf(3, 50), x -> x.redo(), STATE);
        refusedOn("first()", townOf(3, 50), townOf(3, 50), x -> x.first(), NOT);
        refusedOn("instead(1)", townOf(2, 50), townOf(2, 50), x -> x.instead(1), NOT);
        refusedOn("instead(11), BAD ahead of NOT", townOf(2, 50), townOf(2, 50), x -> x.instead(11), BAD);
        refusedOn("soon(1), NOT", cooling(), cooling(), x -> x.soon(1), NOT);
        refusedOn("lamp(0) without lines, -11 ahead of NOT", townOf(0, 0), townOf(0, 0), x -> x.lamp(0), NOTHING);
        refusedOn("act(0, 0, 1) without bodies", townOf(0, 0), townOf(0, 0), x -> x.act(0, 0, 1), 0);
    }

    private static SwitchboardHeart cooling() {
        SwitchboardHeart x = townOf(2, 29);
        tell(x, "-1");
        return x;
    }

    private static void thoughtChangesNothing() {
        sentence("IN THOUGHT, from now");
        unchanged("later(0, 60, 0)", x -> x.later(0, 60, 0));
        unchanged("have(0, 60, 0)", x -> x.have(0, 60, 0));
        unchanged("through(0, 60, 12)", x -> x.through(0, 60, 12));
        unchanged("idle(0, 60, 0)", x -> x.idle(0, 60, 0));
        unchanged("news(0, 60, 0, -1)", x -> x.news(0, 60, 0, -1));
        unchanged("best(0, -1)", x -> x.best(0, -1));
        unchanged("best(1, 0)", x -> x.best(1, 0));
        unchanged("stable(-1)", x -> x.stable(-1));
        unchanged("soon(12)", x -> x.soon(12));
        unchanged("instead(12)", x -> x.instead(12));
        unchanged("which(3, -1)", x -> x.which(3, -1));
        unchanged("sure(3)", x -> x.sure(3));
        unchanged("lamp(3)", x -> x.lamp(3));
        unchanged("cut(0, 60, 12)", x -> x.cut(0, 60, 12));
        unchanged("first()", x -> x.first());
        unchanged("nieces(0, 6, 100, 0)", x -> x.nieces(0, 6, 100, 0));
        unchanged("drawn(5, 2060, 0)", x -> x.drawn(5, 2060, 0));
        unchanged("warmer(12, 99)", x -> x.warmer(12, 99));
    }

    private static void memoryOfItsOwn() {
        sentence("All memory is the class's own.");
        SwitchboardHeart x = full();
        SwitchboardHeart y = full();
        y.mend(0, 4, 4);
        y.putIn(45);
        y.hour();
        y.law();
        y.image();
        y.row(0, 0, 60);
        y.keep(1, -1);
        y.act(0, 0, 1);
        y.later(3, 60, 0);
        y.drawn(1, 2060, 0);
        alike("all that another one does", x, full());
        Due.dueTrue("a new one is as a new one", allOf(new SwitchboardHeart()).equals(allOf(new SwitchboardHeart())));
        SwitchboardHeart z = new SwitchboardHeart();
        for (int what = 0; what <= 5; what++) {
            due("count(" + what + ") of a new one", z.count(what), 0);
        }
    }

    private static void pairsOfLines() {
        sentence("---- lines (ab: 10 times the one and the other, unlike).");
        SwitchboardHeart x = townOf(8, 50);
        for (int one = 0; one < 8; one++) {
            for (int other = 0; other < 8; other++) {
                int ab = 10 * one + other;
                due("warmer(" + ab + ", 0)", x.warmer(ab, 0), one == other ? VOID : 5);
                due("soon(" + ab + ")", x.soon(ab), one == other ? BAD : 0);
                due("of(" + ab + ", 3)", x.of(ab, 3), one == other ? VOID : 0);
            }
        }
    }
}
