/** The edges of shelves, their rows, and of what is counted: Terms 5, promises 36 to 40 and 42. */
public final class EdgesOfShelvesTest extends Board {
    private static final int BYTES = 0, SHORTS = 1, INTS = 2, LONGS = 3, BOOLEANS = 4;

    private EdgesOfShelvesTest() {
    }

    public static void main(String[] args) {
        sixShelves();
        keep();
        keepRefused();
        rowSizes();
        rowRefused();
        noughtAtFirst();
        lowestBits();
        wholeLongs();
        putPlaces();
        putRefused();
        elementRefused();
        shiftAsBefore();
        shiftBetween();
        shiftPlaces();
        shiftFarPlaces();
        shiftKinds();
        shiftRefused();
        counts();
        countRefused();
        Due.end();
    }

    private static void sixShelves() {
        sentence("SHELVES 0 .. 5 each hold nothing (at first), a BODY, or a ROW");
        SwitchboardHeart x = new SwitchboardHeart();
        for (int shelf = 0; shelf < 6; shelf++) {
            due("at first", x.taken(shelf, 0), NOTHING);
            due("at first", x.put(shelf, 0, 1), NOTHING);
            due("at first", x.element(shelf, 0), NO_LONG);
        }
        for (int shelf = 0; shelf < 6; shelf++) {
            due("a row", x.row(shelf, LONGS, 1), 1);
            due("its own", x.put(shelf, 0, 100 + shelf), 1);
        }
        for (int shelf = 0; shelf < 6; shelf++) {
            due("each its own", x.element(shelf, 0), 100 + shelf);
        }
        refusedOutside("row(.., 0, 1)", 0, 5, BAD, shelf -> x.row(shelf, 0, 1));
        refusedOutside("keep(.., -1)", 0, 5, BAD, shelf -> x.keep(shelf, -1));
        refusedOutside("put(.., 0, 1)", 0, 5, BAD, shelf -> x.put(shelf, 0, 1));
        refusedOutside("element(.., 0)", 0, 5, NO_LONG, shelf -> x.element(shelf, 0));
    }

    private static void keep() {
        sentence("A SHELF holds nothing (body -1), or a BODY: 1. BAD.");
        SwitchboardHeart x = new SwitchboardHeart();
        for (int i = 0; i < 50; i++) {
            x.body(i % 8);
        }
        due("nothing, where nothing is", x.keep(0, -1), 1);
        due("nothing", x.taken(0, 0), NOTHING);
        due("the first", x.keep(0, 0), 1);
        due("its kind", x.taken(0, 0), 0);
        due("the last", x.keep(0, 49), 1);
        due("its kind", x.taken(0, 0), 1);
        due("one body on two shelves", x.keep(5, 49), 1);
        due("its kind", x.taken(5, 1), 1);
        due("nothing", x.keep(0, -1), 1);
        due("nothing", x.taken(0, 0), NOTHING);
        due("the other one still", x.taken(5, 1), 1);
        x.row(5, INTS, 3);
        due("a row in its place", x.taken(5, 1), OTHER_KIND);
        due("a row in its place", x.put(5, 2, 7), 1);
        due("nothing in the row's place", x.keep(5, -1), 1);
        due("nothing", x.put(5, 2, 7), NOTHING);
        x.row(5, INTS, 3);
        due("a new row", x.element(5, 2), 0);
        due("a body in the row's place", x.keep(5, 3), 1);
        due("a body", x.put(5, 2, 7), OTHER_KIND);
        due("a body", x.taken(5, 3), 3);
    }

    private static void keepRefused() {
        sentence("`int keep(int shelf, int body)`");
        SwitchboardHeart x = new SwitchboardHeart();
        due("without bodies", x.keep(0, 0), BAD);
        x.body(2);
        x.keep(0, 0);
        refusedOutside("keep(0, ..)", -1, 0, BAD, body -> x.keep(0, body));
        due("it holds what it held", x.taken(0, 2), 2);
        for (int i = 1; i < 50; i++) {
            x.body(0);
        }
        refusedOutside("keep(0, ..) of fifty", -1, 49, BAD, body -> x.keep(0, body));
        due("it holds what it held", x.taken(0, 2), 2);
    }

    private static void rowSizes() {
        sentence("of 0 .. 60 elements, 0 at first (false)");
        SwitchboardHeart x = new SwitchboardHeart();
        int[] sizes = {0, 1, 2, 59, 60};
        for (int sort = 0; sort < 5; sort++) {
            for (int size : sizes) {
                due("row(0, " + sort + ", " + size + ")", x.row(0, sort, size), 1);
                due("the last place", x.put(0, size - 1, 1), size == 0 ? NO_PLACE : 1);
                due("behind it", x.put(0, size, 1), NO_PLACE);
                due("behind it", x.element(0, size), NO_LONG);
            }
        }
    }

    private static void rowRefused() {
        sentence("A SHELF holds a ROW: 1. BAD (sort, n above 60); -14.");
        SwitchboardHeart x = new SwitchboardHeart();
        x.row(0, SHORTS, 3);
        x.put(0, 2, 1234);
        refusedOutside("row(0, .., 1)", 0, 4, BAD, sort -> x.row(0, sort, 1));
        due("n 61", x.row(0, BYTES, 61), BAD);
        due("n most", x.row(0, BYTES, MOST), BAD);
        due("n -1", x.row(0, BYTES, -1), SIZE_BELOW_0);
        due("n least", x.row(0, BYTES, LEAST), SIZE_BELOW_0);
        due("BAD ahead of -14, sort 5", x.row(0, 5, -1), BAD);
        due("BAD ahead of -14, sort -1", x.row(0, -1, -1), BAD);
        due("BAD ahead of -14, shelf 6", x.row(6, 0, -1), BAD);
        due("BAD ahead of -14, shelf -1", x.row(-1, 0, -1), BAD);
        due("it holds what it held", x.element(0, 2), 1234);
        due("of that size", x.element(0, 3), NO_LONG);
        due("n -1 on an empty shelf", x.row(1, BYTES, -1), SIZE_BELOW_0);
        due("it holds nothing", x.put(1, 0, 1), NOTHING);
    }

    private static void noughtAtFirst() {
        sentence("0 at first (false)");
        SwitchboardHeart x = new SwitchboardHeart();
        for (int sort = 0; sort < 5; sort++) {
            x.row(0, sort, 60);
            due("first", x.element(0, 0), 0);
            due("last", x.element(0, 59), 0);
            x.put(0, 0, -1);
            x.put(0, 59, -1);
            due("a new row of the same sort", x.row(0, sort, 60), 1);
            due("first", x.element(0, 0), 0);
            due("last", x.element(0, 59), 0);
            x.put(0, 59, -1);
            x.row(0, sort, 1);
            x.row(0, sort, 60);
            due("a smaller one between", x.element(0, 59), 0);
        }
    }

    private static void kept(int sort, long v, long want) {
        SwitchboardHeart x = new SwitchboardHeart();
        x.row(0, sort, 2);
        due("put(0, 1, " + v + ") of sort " + sort, x.put(0, 1, v), 1);
        due("element of sort " + sort, x.element(0, 1), want);
        due("the other one", x.element(0, 0), 0);
    }

    private static void lowestBits() {
        sentence("what is put in keeps its lowest bits (a boolean: whether it is not 0; 1 or 0).");
        long[][] ofBytes = {{0, 0}, {127, 127}, {128, -128}, {255, -1}, {256, 0}, {257, 1}, {-1, -1}, {-128, -128}, {-129, 127},
            {Long.MIN_VALUE, 0}, {Long.MAX_VALUE, -1}, {1L << 32, 0}, {(1L << 32) + 5, 5}};
        long[][] ofShorts = {{32767, 32767}, {32768, -32768}, {65535, -1}, {65536, 0}, {-32768, -32768}, {-32769, 32767},
            {Long.MIN_VALUE, 0}, {Long.MAX_VALUE, -1}, {128, 128}, {255, 255}};
        long[][] ofInts = {{MOST, MOST}, {1L + MOST, LEAST}, {LEAST, LEAST}, {LEAST - 1L, MOST}, {0xFFFFFFFFL, -1}, {1L << 32, 0},
            {Long.MIN_VALUE, 0}, {Long.MAX_VALUE, -1}, {65536, 65536}};
        long[][] ofBooleans = {{0, 0}, {1, 1}, {-1, 1}, {2, 1}, {256, 1}, {1L << 32, 1}, {Long.MIN_VALUE, 1}, {Long.MAX_VALUE, 1}};
        long[][][] all = {ofBytes, ofShorts, ofInts, {}, ofBooleans};
        for (int sort = 0; sort < 5; sort++) {
            for (long[] one : all[sort]) {
                kept(sort, one[0], one[1]);
            }
        }
    }

    private static void wholeLongs() {
        sentence("3 longs");
        long[] values = {0, 1, -1, Long.MAX_VALUE, Long.MIN_VALUE, Long.MIN_VALUE + 1, 1L << 32, 0xFFFFFFFFL, 0x123456789ABCDEF0L};
        for (long v : values) {
            kept(LONGS, v, v);
        }
        SwitchboardHeart x = new SwitchboardHeart();
        x.row(0, BOOLEANS, 1);
        x.put(0, 0, 5);
        due("put again", x.put(0, 0, 0), 1);
        due("false again", x.element(0, 0), 0);
    }

    private static void putPlaces() {
        sentence("-13 a place that is not there");
        SwitchboardHeart x = new SwitchboardHeart();
        for (int sort = 0; sort < 5; sort++) {
            int asked = sort;
            x.row(sort, sort, 60);
            due("the first", x.put(sort, 0, 1), 1);
            due("the last", x.put(sort, 59, 1), 1);
            refusedOutside("put(" + sort + ", .., 1)", 0, 59, NO_PLACE, i -> x.put(asked, i, 1));
            refusedOutside("element(" + sort + ", ..)", 0, 59, NO_LONG, i -> x.element(asked, i));
        }
        x.row(5, BYTES, 0);
        due("of a row without elements", x.put(5, 0, 1), NO_PLACE);
        due("of a row without elements", x.element(5, 0), NO_LONG);
        x.row(5, BYTES, 60);
        x.put(5, 5, 1);
        x.row(5, BYTES, 5);
        due("behind a smaller row", x.put(5, 5, 1), NO_PLACE);
    }

    private static void putRefused() {
        sentence("Element i of a ROW becomes v: 1. BAD, -11, -12, -13.");
        SwitchboardHeart x = new SwitchboardHeart();
        x.body(0);
        x.keep(1, 0);
        x.row(2, BYTES, 1);
        due("BAD ahead of all", x.put(6, -1, 1), BAD);
        due("-11 ahead of -13", x.put(0, -1, 1), NOTHING);
        due("-11 ahead of -13", x.put(0, 60, 1), NOTHING);
        due("-12", x.put(1, 0, 1), OTHER_KIND);
        due("-12 ahead of -13", x.put(1, -1, 1), OTHER_KIND);
        due("-12 ahead of -13", x.put(1, 60, 1), OTHER_KIND);
        due("-13", x.put(2, 1, 1), NO_PLACE);
        due("none came", x.element(2, 0), 0);
    }

    private static void elementRefused() {
        sentence("Element i of a ROW; Long.MIN_VALUE: BAD, -11 to -13.");
        SwitchboardHeart x = new SwitchboardHeart();
        x.body(0);
        x.keep(1, 0);
        x.row(2, LONGS, 1);
        x.put(2, 0, 9);
        due("BAD", x.element(6, 0), NO_LONG);
        due("BAD", x.element(-1, 0), NO_LONG);
        due("-11", x.element(0, 0), NO_LONG);
        due("-12", x.element(1, 0), NO_LONG);
        due("-13", x.element(2, 1), NO_LONG);
        due("-13", x.element(2, -1), NO_LONG);
        due("there", x.element(2, 0), 9);
    }

    private static void holds(SwitchboardHeart x, int shelf, int... want) {
        for (int i = 0; i < want.length; i++) {
            due("shelf " + shelf + " at " + i, x.element(shelf, i), want[i]);
        }
        due("and no more", x.element(shelf, want.length), NO_LONG);
    }

    private static void shiftAsBefore() {
        sentence("n elements of a ROW from i on come to another one (or the same) from j on, as they all were before: n.");
        SwitchboardHeart x = new SwitchboardHeart();
        bytes(x, 0, 1, 2, 3, 4, 5);
        due("up by one", x.shift(0, 0, 0, 1, 4), 4);
        holds(x, 0, 1, 1, 2, 3, 4);
        due("down by two", x.shift(0, 2, 0, 0, 3), 3);
        holds(x, 0, 2, 3, 4, 3, 4);
        due("to where they are", x.shift(0, 0, 0, 0, 5), 5);
        holds(x, 0, 2, 3, 4, 3, 4);
        due("none", x.shift(0, 1, 0, 3, 0), 0);
        holds(x, 0, 2, 3, 4, 3, 4);
    }

    private static void shiftBetween() {
        sentence("come to another one (or the same)");
        SwitchboardHeart x = new SwitchboardHeart();
        for (int sort = 0; sort < 5; sort++) {
            x.row(0, sort, 60);
            x.row(5, sort, 60);
            x.put(0, 0, 1);
            x.put(0, 59, 1);
            x.put(5, 30, 1);
            due("all sixty of sort " + sort, x.shift(0, 0, 5, 0, 60), 60);
            due("the first", x.element(5, 0), 1);
            due("one between", x.element(5, 30), 0);
            due("the last", x.element(5, 59), 1);
            due("the one stays", x.element(0, 59), 1);
            due("the last to the first", x.shift(5, 59, 0, 1, 1), 1);
            due("it came", x.element(0, 1), 1);
        }
        x.row(0, LONGS, 2);
        x.row(1, LONGS, 2);
        x.put(0, 0, Long.MIN_VALUE);
        x.put(0, 1, Long.MAX_VALUE);
        x.shift(0, 1, 1, 0, 1);
        x.put(0, 1, 7);
        due("a long, its own", x.element(1, 0), Long.MAX_VALUE);
    }

    private static void shiftPlaces() {
        sentence("-13 (n below 0, too).");
        SwitchboardHeart x = new SwitchboardHeart();
        bytes(x, 0, 1, 2, 3, 4);
        bytes(x, 1, 7, 7);
        due("as many as fit", x.shift(0, 2, 1, 0, 2), 2);
        due("one too many there", x.shift(0, 0, 1, 0, 3), NO_PLACE);
        due("one too many from there", x.shift(1, 0, 0, 0, 3), NO_PLACE);
        due("one place too far there", x.shift(0, 0, 1, 1, 2), NO_PLACE);
        due("one place too far from there", x.shift(0, 3, 1, 0, 2), NO_PLACE);
        due("i -1", x.shift(0, -1, 1, 0, 1), NO_PLACE);
        due("j -1", x.shift(0, 0, 1, -1, 1), NO_PLACE);
        due("n -1", x.shift(0, 1, 1, 1, -1), NO_PLACE);
        holds(x, 0, 1, 2, 3, 4);
        holds(x, 1, 3, 4);
        due("none, from the end to the end", x.shift(0, 4, 1, 2, 0), 0);
        due("none, from behind the end", x.shift(0, 5, 1, 2, 0), NO_PLACE);
        due("none, to behind the end", x.shift(0, 4, 1, 3, 0), NO_PLACE);
        due("none, from -1", x.shift(0, -1, 1, 2, 0), NO_PLACE);
        due("none, to -1", x.shift(0, 4, 1, -1, 0), NO_PLACE);
        x.row(2, BYTES, 0);
        due("none of a row without elements", x.shift(2, 0, 2, 0, 0), 0);
        due("one of a row without elements", x.shift(2, 0, 0, 0, 1), NO_PLACE);
        due("one to a row without elements", x.shift(0, 0, 2, 0, 1), NO_PLACE);
    }

    private static void shiftFarPlaces() {
        sentence("-13 a place that is not there");
        SwitchboardHeart x = new SwitchboardHeart();
        x.row(0, INTS, 60);
        x.row(1, INTS, 60);
        int[] far = {61, MOST, MOST - 1, MOST - 59, LEAST, LEAST + 60, -60};
        for (int v : far) {
            due("i " + v, x.shift(0, v, 1, 0, 1), NO_PLACE);
            due("j " + v, x.shift(0, 0, 1, v, 1), NO_PLACE);
            due("n " + v, x.shift(0, 0, 1, 0, v), NO_PLACE);
            due("i and n " + v, x.shift(0, v, 1, 0, v), NO_PLACE);
            due("i " + v + " and n back to a place", x.shift(0, v, 1, 0, 30 - v), NO_PLACE);
            due("j " + v + " and n back to a place", x.shift(0, 0, 1, v, 30 - v), NO_PLACE);
        }
    }

    private static void shiftKinds() {
        sentence("-12 (no ROWS, or of unlike sorts)");
        SwitchboardHeart x = new SwitchboardHeart();
        for (int sort = 0; sort < 5; sort++) {
            x.row(sort, sort, 3);
        }
        x.body(0);
        x.keep(5, 0);
        for (int from = 0; from < 6; from++) {
            for (int to = 0; to < 6; to++) {
                due("from " + from + " to " + to, x.shift(from, 0, to, 0, 3), from == to && from < 5 ? 3 : OTHER_KIND);
                due("-12 ahead of -13", x.shift(from, 0, to, 0, 4), from == to && from < 5 ? NO_PLACE : OTHER_KIND);
            }
        }
    }

    private static void shiftRefused() {
        sentence("BAD, -11 (either), -12 (no ROWS, or of unlike sorts), -13 (n below 0, too).");
        SwitchboardHeart x = new SwitchboardHeart();
        x.row(0, BYTES, 3);
        x.body(0);
        x.keep(1, 0);
        x.row(2, SHORTS, 3);
        refusedOutside("shift(.., 0, 0, 0, 1)", 0, 5, BAD, shelf -> x.shift(shelf, 0, 0, 0, 1));
        refusedOutside("shift(0, 0, .., 0, 1)", 0, 5, BAD, shelf -> x.shift(0, 0, shelf, 0, 1));
        due("-11, the one", x.shift(3, 0, 0, 0, 1), NOTHING);
        due("-11, the other", x.shift(0, 0, 3, 0, 1), NOTHING);
        due("-11, both", x.shift(3, 0, 3, 0, 0), NOTHING);
        due("BAD ahead of -11", x.shift(3, 0, 6, 0, 1), BAD);
        due("BAD ahead of -11", x.shift(-1, 0, 3, 0, 1), BAD);
        due("BAD ahead of -12", x.shift(1, 0, 6, 0, 1), BAD);
        due("-11 ahead of -12, a body", x.shift(1, 0, 3, 0, 1), NOTHING);
        due("-11 ahead of -12, a body", x.shift(3, 0, 1, 0, 1), NOTHING);
        due("-11 ahead of -13", x.shift(0, -1, 3, 0, -1), NOTHING);
        due("-12 ahead of -13, a body", x.shift(0, -1, 1, 0, -1), OTHER_KIND);
        due("-12 ahead of -13, a body with itself", x.shift(1, -1, 1, 0, -1), OTHER_KIND);
        due("-12 ahead of -13, unlike sorts", x.shift(0, -1, 2, 0, -1), OTHER_KIND);
        due("-13", x.shift(0, -1, 0, 0, -1), NO_PLACE);
    }

    private static void counts() {
        sentence("How many: 0 LINES, 1 pairs that are in, 2 bytes on THE TAPE, 3 changes that may be UNDONE, 4 BODIES");
        SwitchboardHeart x = new SwitchboardHeart();
        for (int what = 0; what <= 5; what++) {
            due("count(" + what + ") of a new board", x.count(what), 0);
        }
        for (int i = 0; i < 8; i++) {
            x.line(50);
        }
        x.mend(0, 4, 4);
        x.putIn(1);
        x.putIn(23);
        x.putIn(45);
        x.putIn(67);
        for (int i = 0; i < 120; i++) {
            x.feed('1');
        }
        for (int i = 0; i < 45; i++) {
            x.mend(0, 0, i);
        }
        for (int i = 0; i < 50; i++) {
            x.body(5);
        }
        x.act(49, 3, 1);
        int[] most = {8, 4, 120, 40, 50, 10};
        for (int what = 0; what <= 5; what++) {
            due("count(" + what + ") at its most", x.count(what), most[what]);
        }
    }

    private static void countRefused() {
        sentence("`int count(int what)`");
        SwitchboardHeart x = new SwitchboardHeart();
        refusedOutside("count(..)", 0, 5, BAD, x::count);
    }
}
