/** The edges of lines and of the numbers that mend() tells: Terms 1, promises 1 to 5. */
public final class EdgesOfLinesTest extends Board {
    private EdgesOfLinesTest() {
    }

    public static void main(String[] args) {
        usedFor512Calls();
        aNewObject();
        linesAsTheyCome();
        warm();
        needs();
        party();
        partyNoughtIsNone();
        likes();
        cords();
        cordsWithNoneAndFour();
        cold();
        line();
        lines();
        linesEnd();
        linesAtFarPlaces();
        linesWithoutARowOfBytes();
        mendNumbers();
        mendCordsAndColdOfNought();
        mendWhat();
        mendFewerCords();
        of();
        Due.end();
    }

    private static void usedFor512Calls() {
        sentence("An object is used for at most 512 calls after it has been made");
        SwitchboardHeart x = new SwitchboardHeart();
        for (int i = 1; i <= 511; i++) {
            x.hour();
        }
        due("the 512th call, led(0)", x.led(0), 511);
    }

    private static void aNewObject() {
        sentence("A board, no lines.");
        SwitchboardHeart x = new SwitchboardHeart();
        due("count(0)", x.count(0), 0);
        due("of(0, 0)", x.of(0, 0), VOID);
        due("putIn(1)", x.putIn(1), BAD);
        due("hour()", x.hour(), 0);
        due("first()", x.first(), NOT);
        due("stable(-1)", x.stable(-1), 1);
    }

    private static void linesAsTheyCome() {
        sentence("======== 1 LINES 0 .. 7, as they come:");
        SwitchboardHeart x = new SwitchboardHeart();
        for (int i = 0; i < 8; i++) {
            due("of(" + i + ", 0) ahead of its line()", x.of(i, 0), VOID);
            due("line(" + (10 + i) + ")", x.line(10 + i), i);
            due("of(" + i + ", 0)", x.of(i, 0), 10 + i);
        }
        due("a ninth", x.line(50), FULL);
        due("count(0)", x.count(0), 8);
        refusedLines("of(.., 0)", 8, VOID, one -> x.of(one, 0));
    }

    /** A number of mend() at its ends, just outside of them, and far outside. */
    private static void ends(int number, int what, int least, int most, int first) {
        SwitchboardHeart x = town(50, 50);
        String call = "mend(" + number + ", " + what + ", ..)";
        due("at first", x.of(number, what), first);
        due(call + " with " + least, x.mend(number, what, least), first);
        due("is now", x.of(number, what), least);
        due(call + " with " + most, x.mend(number, what, most), least);
        refusedOutside(call, least, most, VOID, v -> x.mend(number, what, v));
        due("is still", x.of(number, what), most);
        due(call + " with " + least, x.mend(number, what, least), most);
        refusedOutside(call, least, most, VOID, v -> x.mend(number, what, v));
        due("is still", x.of(number, what), least);
    }

    private static void warm() {
        sentence("WARM (0 .. 99)");
        SwitchboardHeart x = new SwitchboardHeart();
        due("line(0)", x.line(0), 0);
        due("line(99)", x.line(99), 1);
        refusedOutside("line(..)", 0, 99, BAD, x::line);
        due("count(0)", x.count(0), 2);
        due("of(0, 0)", x.of(0, 0), 0);
        due("of(1, 0)", x.of(1, 0), 99);
        ends(0, 0, 0, 99, 50);
    }

    private static void needs() {
        sentence("NEEDS (0 .. 99; 30 at first)");
        ends(0, 1, 0, 99, 30);
        ends(1, 1, 0, 99, 30);
    }

    private static void party() {
        sentence("PARTY (0 .. 3; 0 at first: on none)");
        ends(0, 2, 0, 3, 0);
        SwitchboardHeart x = town(50, 50, 50);
        x.putIn(1);
        x.mend(0, 2, 3);
        x.mend(2, 2, 3);
        x.hour();
        due("on party line 3", x.of(2, 0), 51);
        x.mend(2, 2, 2);
        x.hour();
        due("on party line 2, of which none is through", x.of(2, 0), 49);
        x.mend(0, 2, 1);
        x.mend(2, 2, 1);
        x.hour();
        due("on party line 1", x.of(2, 0), 50);
    }

    private static void partyNoughtIsNone() {
        sentence("is on a PARTY line (not 0) of which one is put through");
        SwitchboardHeart x = town(50, 50, 50);
        x.putIn(1);
        x.hour();
        due("all of party 0", x.of(2, 0), 48);
        bytes(x, 0, 1);
        due("in thought", x.later(0, 1, 2), 46);
        due("the NEWS", x.news(0, 1, 0, -1), 1 + 2);
        tell(x, "p");
        due("p of the law", x.warmer(1, 0), 0);
    }

    private static void likes() {
        sentence("LIKES of one for another one (-9 .. 9; 0 at first)");
        ends(1, 3, -9, 9, 0);
        ends(10, 3, -9, 9, 0);
        SwitchboardHeart x = townOf(8, 50);
        due("mend(67, 3, 9)", x.mend(67, 3, 9), 0);
        due("the other's are its own", x.of(76, 3), 0);
        due("mend(76, 3, -9)", x.mend(76, 3, -9), 0);
        due("of(67, 3)", x.of(67, 3), 9);
        due("of(76, 3)", x.of(76, 3), -9);
    }

    private static void cords() {
        sentence("CORDS (0 .. 4; 2 at first)");
        ends(0, 4, 0, 4, 2);
    }

    private static void cordsWithNoneAndFour() {
        sentence("PLUGS of an hour: pairs of unlike LINES, as many as CORDS at most, none in two of them.");
        int[] pairs = {1, 23, 45, 67};
        for (int cords = 0; cords <= 4; cords++) {
            SwitchboardHeart x = townOf(8, 50);
            x.mend(0, 4, cords);
            for (int i = 0; i < 4; i++) {
                due("putIn(" + pairs[i] + ") with " + cords, x.putIn(pairs[i]), i < cords ? i + 1 : STATE);
            }
            due("in with " + cords, x.count(1), cords);
            bytes(x, 0, pairs);
            due("UNLAWFUL with " + cords, x.have(0, 1, 1), 4 - cords);
        }
        SwitchboardHeart x = townOf(4, 50);
        x.putIn(1);
        due("one of them is in already", x.putIn(12), STATE);
        due("one with itself", x.putIn(22), BAD);
        due("two others", x.putIn(32), 2);
    }

    private static void cold() {
        sentence("COLD (0 .. 9; 2 at first)");
        ends(0, 5, 0, 9, 2);
        SwitchboardHeart x = town(50);
        x.hour();
        due("by 2", x.of(0, 0), 48);
        x.mend(0, 5, 0);
        x.hour();
        due("by 0", x.of(0, 0), 48);
        x.mend(0, 5, 9);
        x.hour();
        due("by 9", x.of(0, 0), 39);
    }

    private static void line() {
        sentence("A LINE: its number. BAD, FULL: 8.");
        SwitchboardHeart x = townOf(7, 50);
        due("the eighth", x.line(0), 7);
        due("the ninth", x.line(0), FULL);
        due("BAD ahead of FULL, -1", x.line(-1), BAD);
        due("BAD ahead of FULL, 100", x.line(100), BAD);
        due("count(0)", x.count(0), 8);
    }

    private static void lines() {
        sentence("from place i on, n (1 .. 8) of them: how many came (0 with i below 0).");
        SwitchboardHeart x = new SwitchboardHeart();
        x.row(0, 0, 24);
        refusedOutside("lines(0, 0, ..)", 1, 8, BAD, n -> x.lines(0, 0, n));
        due("i -1", x.lines(0, -1, 8), 0);
        due("i far below", x.lines(0, LEAST, 8), 0);
        due("count(0)", x.count(0), 0);
        due("n 1", x.lines(0, 0, 1), 1);
        due("n 1 again", x.lines(0, 21, 1), 1);
        due("count(0)", x.count(0), 2);
        SwitchboardHeart y = new SwitchboardHeart();
        y.row(0, 0, 24);
        due("n 8", y.lines(0, 0, 8), 8);
        due("count(0)", y.count(0), 8);
    }

    /** The first three of nine bytes are a line; what the second three are is told. */
    private static int cameWith(int warm, int needs, int party) {
        SwitchboardHeart x = new SwitchboardHeart();
        bytes(x, 0, 1, 2, 3, warm, needs, party, 4, 5, 0);
        int came = x.lines(0, 0, 3);
        due("as many came", x.count(0), came);
        due("the first", x.of(0, 1), 2);
        return came;
    }

    private static void linesEnd() {
        sentence("it ends where the row is missing, ends (within a three, too), one is not as it may be, or LINES are FULL: those ahead came.");
        due("all at their least", cameWith(0, 0, 0), 3);
        due("all at their most", cameWith(99, 99, 3), 3);
        int[] wrong = {-1, 100, 127, -128};
        for (int v : wrong) {
            due("WARM " + v, cameWith(v, 0, 0), 1);
            due("NEEDS " + v, cameWith(0, v, 0), 1);
            due("PARTY " + v, cameWith(0, 0, v), 1);
        }
        due("PARTY 4", cameWith(0, 0, 4), 1);
        SwitchboardHeart x = new SwitchboardHeart();
        due("missing", x.lines(0, 0, 1), 0);
        int[] sizes = {0, 1, 2, 3, 5, 6, 8, 9};
        int[] came = {0, 0, 0, 1, 1, 2, 2, 3};
        for (int i = 0; i < sizes.length; i++) {
            SwitchboardHeart y = new SwitchboardHeart();
            y.row(5, 0, sizes[i]);
            due("of " + sizes[i] + " bytes", y.lines(5, 0, 8), came[i]);
            due("and no more", y.count(0), came[i]);
        }
        SwitchboardHeart z = townOf(6, 50);
        z.row(0, 0, 9);
        due("FULL behind two", z.lines(0, 0, 3), 2);
        due("FULL at once", z.lines(0, 0, 3), 0);
        due("count(0)", z.count(0), 8);
    }

    private static void linesAtFarPlaces() {
        sentence("LINES FROM A ROW of bytes, from place i on");
        SwitchboardHeart x = new SwitchboardHeart();
        x.row(0, 0, 60);
        x.put(0, 57, 7);
        x.put(0, 58, 8);
        x.put(0, 59, 1);
        due("the last three", x.lines(0, 57, 1), 1);
        due("its WARM", x.of(0, 0), 7);
        due("its NEEDS", x.of(0, 1), 8);
        due("its PARTY", x.of(0, 2), 1);
        due("its LIKES", x.of(0, 3), VOID);
        due("the last three, and no more", x.lines(0, 57, 8), 1);
        int[] behind = {58, 59, 60, 61, MOST - 2, MOST - 1, MOST};
        for (int i : behind) {
            due("from " + i, x.lines(0, i, 1), 0);
        }
        due("count(0)", x.count(0), 2);
    }

    private static void linesWithoutARowOfBytes() {
        sentence("BAD, -12 (no ROW of bytes; a SHELF that holds nothing is missing).");
        SwitchboardHeart x = new SwitchboardHeart();
        refusedOutside("lines(.., 0, 1)", 0, 5, BAD, shelf -> x.lines(shelf, 0, 1));
        for (int shelf = 0; shelf < 6; shelf++) {
            due("nothing on " + shelf, x.lines(shelf, 0, 1), 0);
        }
        x.body(0);
        x.keep(0, 0);
        due("a body", x.lines(0, 0, 1), OTHER_KIND);
        for (int sort = 1; sort < 5; sort++) {
            x.row(sort, sort, 3);
            due("a row of sort " + sort, x.lines(sort, 0, 1), OTHER_KIND);
        }
        x.row(5, 0, 3);
        due("a row of bytes", x.lines(5, 0, 1), 1);
        x.keep(5, -1);
        due("nothing again", x.lines(5, 0, 1), 0);
        sentence("LINES: -12 ahead of a place below 0.");
        due("a body, i -1", x.lines(0, -1, 1), OTHER_KIND);
        due("shorts, i -1", x.lines(1, -1, 1), OTHER_KIND);
        due("nothing, i -1", x.lines(5, -1, 1), 0);
        due("BAD ahead of both", x.lines(1, -1, 0), BAD);
    }

    private static void mendNumbers() {
        sentence("WARM (what 0), NEEDS (1), PARTY (2) of one, LIKES (3; number ab), CORDS (4), COLD (5; number 0 for these, another: BAD) becomes v: what it was. VOID: BAD.");
        SwitchboardHeart x = townOf(3, 50);
        for (int what = 0; what < 3; what++) {
            int asked = what;
            refusedLines("mend(.., " + what + ", 1)", 3, VOID, one -> x.mend(one, asked, 1));
            due("of the last", x.mend(2, what, 1), what == 0 ? 50 : what == 1 ? 30 : 0);
        }
        refusedPairs("mend(.., 3, 1)", 3, VOID, ab -> x.mend(ab, 3, 1));
        due("mend(21, 3, 1)", x.mend(21, 3, 1), 0);
        due("mend(2, 3, 1)", x.mend(2, 3, 1), 0);
        due("mend(20, 3, 1)", x.mend(20, 3, 1), 0);
        due("changes", x.count(3), 6);
    }

    private static void mendCordsAndColdOfNought() {
        sentence("number 0 for these, another: BAD");
        SwitchboardHeart x = new SwitchboardHeart();
        for (int what = 4; what <= 5; what++) {
            int asked = what;
            int[] wrong = {-1, 1, 10, LEAST, MOST};
            for (int number : wrong) {
                due("mend(" + number + ", " + what + ", 1)", x.mend(number, asked, 1), VOID);
                due("of(" + number + ", " + what + ")", x.of(number, asked), VOID);
            }
            due("without any line, mend(0, " + what + ", 1)", x.mend(0, what, 1), 2);
            due("without any line, of(0, " + what + ")", x.of(0, what), 1);
        }
    }

    private static void mendWhat() {
        sentence("`int mend(int number, int what, int v)`");
        SwitchboardHeart x = townOf(2, 50);
        refusedOutside("mend(0, .., 1)", 0, 5, VOID, what -> x.mend(0, what, 1));
        due("mend(0, 7, 1)", x.mend(0, 7, 1), VOID);
        due("none came", x.count(3), 0);
        sentence("A mend() to the same is no CHANGE");
        due("the same, answered", x.mend(0, 0, 50), 50);
        due("the same, answered", x.mend(0, 5, 2), 2);
        due("none came", x.count(3), 0);
    }

    private static void mendFewerCords() {
        sentence("(CORDS may become fewer than are in: those stay in.)");
        SwitchboardHeart x = townOf(6, 50);
        x.putIn(1);
        x.putIn(23);
        due("to 0", x.mend(0, 4, 0), 2);
        due("in", x.count(1), 2);
        due("who", x.led(4), 15);
        x.hour();
        due("they are warmer", x.of(3, 0), 55);
        due("none more", x.putIn(45), STATE);
        x.mend(0, 4, 1);
        due("out", x.pull(23), 1);
        due("the one that is in has the cord", x.putIn(23), STATE);
        due("out", x.pull(1), 1);
        due("a cord is left", x.putIn(23), 1);
    }

    private static void of() {
        sentence("As of mend() (0 to 5); of one 6 to whom it is through (NOT), 7 for how many hours. VOID: BAD.");
        SwitchboardHeart x = townOf(3, 50);
        for (int what : new int[] {0, 1, 2, 6, 7}) {
            refusedLines("of(.., " + what + ")", 3, VOID, one -> x.of(one, what));
        }
        refusedPairs("of(.., 3)", 3, VOID, ab -> x.of(ab, 3));
        refusedOutside("of(0, ..)", 0, 7, VOID, what -> x.of(0, what));
        due("of(0, 8)", x.of(0, 8), VOID);
        due("through to nobody", x.of(2, 6), NOT);
        due("for no hours", x.of(2, 7), 0);
        x.putIn(20);
        due("through to 0", x.of(2, 6), 0);
        due("for no hours yet", x.of(2, 7), 0);
        x.hour();
        due("for one", x.of(2, 7), 1);
        due("for one", x.of(0, 7), 1);
        due("not so 1", x.of(1, 7), 0);
        x.pull(2);
        due("through to nobody again", x.of(2, 6), NOT);
        due("for no hours again", x.of(2, 7), 0);
        due("nor 0", x.of(0, 6), NOT);
        due("nor 0", x.of(0, 7), 0);
    }
}
