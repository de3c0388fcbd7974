import java.util.function.IntToLongFunction;
import java.util.function.ToLongFunction;

/** What the tests of single answers share: boards to ask, and the answers that refuse. */
abstract class Board {
    static final int BAD = -1, NOT = -2, FULL = -3, STATE = -5, VOID = -2000000000;
    static final int NOTHING = -11, OTHER_KIND = -12, NO_PLACE = -13, SIZE_BELOW_0 = -14;
    static final long NO_LONG = Long.MIN_VALUE;
    static final int LEAST = Integer.MIN_VALUE, MOST = Integer.MAX_VALUE;

    static void sentence(String words) {
        Due.sentence(words);
    }

    static void due(String what, long got, long want) {
        Due.due(what, got, want);
    }

    static SwitchboardHeart town(int... warm) {
        SwitchboardHeart x = new SwitchboardHeart();
        for (int w : warm) {
            x.line(w);
        }
        return x;
    }

    /** So many lines, all as warm. */
    static SwitchboardHeart townOf(int lines, int warm) {
        SwitchboardHeart x = new SwitchboardHeart();
        for (int i = 0; i < lines; i++) {
            x.line(warm);
        }
        return x;
    }

    static void bytes(SwitchboardHeart x, int shelf, int... row) {
        x.row(shelf, 0, row.length);
        for (int i = 0; i < row.length; i++) {
            x.put(shelf, i, row[i]);
        }
    }

    static int tell(SwitchboardHeart x, String text) {
        for (int i = 0; i < text.length(); i++) {
            x.feed(text.charAt(i));
        }
        return x.law();
    }

    /** What nieces make of the day on shelf 0: both parts of the fraction. */
    static void fraction(SwitchboardHeart x, int skill, int v, long above, long below) {
        due("nieces(), above the line, skill " + skill + ", v " + v, x.nieces(0, skill, v, 0), above);
        due("nieces(), below the line, skill " + skill + ", v " + v, x.nieces(0, skill, v, 1), below);
    }

    /** What is just outside of a number's ends, and what is far outside, is refused. */
    static void refusedOutside(String call, int least, int most, long refusal, IntToLongFunction asked) {
        int[] outside = {least - 1, most + 1, least - 1000, most + 1000, LEAST, MOST};
        for (int v : outside) {
            due(call + " with " + v, asked.applyAsLong(v), refusal);
        }
    }

    /** Numbers that are no pair of unlike lines, on a board with lines 0 .. lines - 1. */
    static void refusedPairs(String call, int lines, long refusal, IntToLongFunction asked) {
        int last = lines - 1;
        int[] wrong = {0, 11, 10 * last + last, lines, 10 * lines, 10 * last + lines, 10 * lines + last, 8, 80, 9, 90, 99,
            -1, -10, -12, 100, 101, 110, 112, 1000, LEAST, LEAST + 1, MOST, MOST - 1};
        for (int ab : wrong) {
            due(call + " with " + ab, asked.applyAsLong(ab), refusal);
        }
    }

    /** Numbers of lines that are not there, on a board with lines 0 .. lines - 1. */
    static void refusedLines(String call, int lines, long refusal, IntToLongFunction asked) {
        refusedOutside(call, 0, lines - 1, refusal, asked);
    }

    /** A shelf that is none, and shelves that hold nothing, a body, or rows that are none of bytes. */
    static void refusedDays(String call, int lines, ToLongFunction<Asked> asked, boolean longs) {
        SwitchboardHeart x = townOf(lines, 50);
        for (int shelf : new int[] {-1, 6, LEAST, MOST}) {
            due(call + " on shelf " + shelf, asked.applyAsLong(new Asked(x, shelf)), longs ? NO_LONG : BAD);
        }
        for (int shelf = 0; shelf < 6; shelf++) {
            due(call + " on an empty shelf", asked.applyAsLong(new Asked(x, shelf)), longs ? NO_LONG : NOTHING);
        }
        x.body(0);
        x.keep(0, 0);
        for (int sort = 1; sort < 5; sort++) {
            x.row(sort, sort, 60);
        }
        for (int shelf = 0; shelf < 5; shelf++) {
            due(call + " on another kind", asked.applyAsLong(new Asked(x, shelf)), longs ? NO_LONG : OTHER_KIND);
        }
    }

    /** A board and the shelf to ask it of. */
    record Asked(SwitchboardHeart x, int shelf) {
    }
}
