/** The edges of what is done: in deed, led, the image, changes undone and done again: Terms 4, promises 25 to 32. */
public final class EdgesOfDeedsTest extends Board {
    private EdgesOfDeedsTest() {
    }

    public static void main(String[] args) {
        putIn();
        putInRefused();
        pull();
        pullRefused();
        hour();
        hourWithoutLines();
        led();
        ledDegrees();
        ledDegreesByHourAlone();
        ledRefused();
        imageHours();
        imageOfNothing();
        imageWithLinesSince();
        imageOfEightLines();
        imageKeepsNoMore();
        imageAgain();
        noImage();
        noChange();
        changesOfEachNumber();
        theSameIsNoChange();
        fortyChanges();
        fortyOneChanges();
        fortyOneUnlikeChanges();
        doneAgain();
        whatEndsDoneAgain();
        whatDoesNotEndIt();
        deedsAreNone();
        backIsNone();
        undoneAtTheEnds();
        Due.end();
    }

    // ---- 25, 26

    private static void putIn() {
        sentence("A pair is PUT IN: how many are in. BAD; STATE: one of them is through, or no CORD is left.");
        SwitchboardHeart x = townOf(8, 50);
        due("no pair", x.count(1), 0);
        due("the first", x.putIn(76), 1);
        due("the same", x.putIn(76), STATE);
        due("the same, told the other way", x.putIn(67), STATE);
        due("the one is through", x.putIn(75), STATE);
        due("the one is through", x.putIn(65), STATE);
        due("the other is through", x.putIn(57), STATE);
        due("the other is through", x.putIn(6), STATE);
        due("the second", x.putIn(5), 2);
        due("no CORD is left", x.putIn(12), STATE);
        x.mend(0, 4, 4);
        due("the third", x.putIn(12), 3);
        due("the fourth", x.putIn(43), 4);
        due("all are through", x.led(4), 255);
        due("led", x.led(1), 4);
        SwitchboardHeart y = townOf(2, 50);
        y.mend(0, 4, 0);
        due("no CORD at all", y.putIn(1), STATE);
        y.mend(0, 4, 1);
        due("one CORD", y.putIn(1), 1);
    }

    private static void putInRefused() {
        sentence("BAD; STATE: one of them is through");
        SwitchboardHeart x = townOf(8, 50);
        refusedPairs("putIn(..)", 8, BAD, x::putIn);
        x.putIn(1);
        x.putIn(23);
        due("BAD ahead of STATE, through with itself", x.putIn(11), BAD);
        due("BAD ahead of STATE, no such line", x.putIn(8), BAD);
        due("BAD ahead of STATE, no CORD", x.putIn(44), BAD);
        due("in", x.count(1), 2);
        due("led", x.led(1), 2);
        due("without lines", new SwitchboardHeart().putIn(1), BAD);
        due("with one", townOf(1, 50).putIn(1), BAD);
    }

    private static void pull() {
        sentence("It is PULLED out: for how many hours it was in. BAD; STATE: it is not in.");
        SwitchboardHeart x = townOf(8, 50);
        due("nothing is in", x.pull(1), STATE);
        x.putIn(70);
        x.putIn(12);
        due("another pair", x.pull(71), STATE);
        due("another pair", x.pull(1), STATE);
        due("another pair", x.pull(20), STATE);
        due("nobody", x.pull(34), STATE);
        due("for no hours, told the other way", x.pull(7), 0);
        due("not in any more", x.pull(70), STATE);
        x.hour();
        due("for one", x.pull(12), 1);
        x.putIn(12);
        for (int i = 0; i < 70; i++) {
            x.hour();
        }
        due("for 70, from its putting in on", x.pull(21), 70);
        due("in", x.count(1), 0);
        due("led", x.led(2), 3);
        x.putIn(67);
        due("the last two", x.pull(76), 0);
    }

    private static void pullRefused() {
        sentence("BAD; STATE: it is not in.");
        SwitchboardHeart x = townOf(8, 50);
        refusedPairs("pull(..)", 8, BAD, x::pull);
        x.putIn(1);
        refusedPairs("pull(..)", 8, BAD, x::pull);
        due("in", x.count(1), 1);
        due("led", x.led(2), 0);
        due("without lines", new SwitchboardHeart().pull(1), BAD);
    }

    // ---- 27, 28

    private static void hour() {
        sentence("AN HOUR passes: who has NEEDS then.");
        SwitchboardHeart x = town(31, 32, 33, 25, 24, 0, 99, 30);
        x.mend(5, 1, 0);
        x.mend(6, 1, 97);
        x.putIn(34);
        due("who has no less than NEEDS", x.hour(), 2 + 4 + 8 + 32 + 64);
        due("an hour later", x.hour(), 8 + 16 + 32);
        SwitchboardHeart y = townOf(8, 99);
        due("all", y.hour(), 255);
        SwitchboardHeart z = townOf(8, 31);
        due("none", z.hour(), 0);
    }

    private static void hourWithoutLines() {
        sentence("AN HOUR passes: who has NEEDS then.");
        SwitchboardHeart x = new SwitchboardHeart();
        due("without lines", x.hour(), 0);
        due("it passed", x.led(0), 1);
    }

    private static void led() {
        sentence("LED: hours (what 0), put in (1), pulled (2), degrees (3), who is through (4: bits). BAD.");
        SwitchboardHeart x = townOf(8, 50);
        for (int what = 0; what <= 4; what++) {
            due("led(" + what + ") of a new board", x.led(what), 0);
        }
        x.putIn(1);
        x.putIn(67);
        due("who is through", x.led(4), 1 + 2 + 64 + 128);
        x.hour();
        x.pull(1);
        due("hours", x.led(0), 1);
        due("put in", x.led(1), 2);
        due("pulled", x.led(2), 1);
        due("degrees", x.led(3), 20);
        due("who is through", x.led(4), 64 + 128);
        due("refused ones are not led", x.putIn(67) + x.pull(1), 2 * STATE);
        due("put in", x.led(1), 2);
        due("pulled", x.led(2), 1);
    }

    private static void ledDegrees() {
        sentence("degrees all became warmer (colder ones not taken off)");
        SwitchboardHeart x = town(97, 50, 99, 99, 0, 98, 40);
        x.mend(10, 3, -9);
        x.mend(5, 2, 1);
        x.mend(2, 2, 1);
        x.mend(3, 2, 1);
        x.putIn(1);
        x.putIn(23);
        // 0: 99 at most, by 2; 1: by -4; 2 and 3: at 99; 4: at 0; 5: by 1; 6: by -2
        x.hour();
        due("behind one", x.led(3), 3);
        due("1", x.of(1, 0), 46);
        due("5", x.of(5, 0), 99);
        x.hour();
        due("behind two", x.led(3), 3);
        tell(x, "-20");
        x.hour();
        due("behind three", x.led(3), 3);
    }

    private static void ledDegreesByHourAlone() {
        sentence("LED 3 is what WARM grew by in hour().");
        SwitchboardHeart x = townOf(2, 50);
        x.mend(0, 0, 90);
        x.line(99);
        x.undo();
        x.redo();
        due("not by mend(), line(), undo(), redo()", x.led(3), 0);
        x.row(0, 0, 3);
        x.put(0, 0, 1);
        x.later(0, 60, 0);
        x.best(0, -1);
        x.drawn(1, 2060, 0);
        x.lines(0, 0, 1);
        due("not in thought", x.led(3), 0);
        x.putIn(1);
        x.hour();
        due("by hour()", x.led(3), 10);
    }

    private static void ledRefused() {
        sentence("`int led(int what)`");
        SwitchboardHeart x = townOf(2, 50);
        refusedOutside("led(..)", 0, 4, BAD, x::led);
    }

    // ---- 29, 30

    private static void imageHours() {
        sentence("AN IMAGE is kept: hours.");
        SwitchboardHeart x = townOf(2, 50);
        due("no hours", x.image(), 0);
        x.hour();
        x.hour();
        due("two", x.image(), 2);
        due("two again", x.image(), 2);
        sentence("It is laid back (LINES that came since: WARM as it is, through to nobody): hours. STATE: there is none.");
        x.hour();
        due("laid back", x.back(), 2);
        due("hours", x.led(0), 2);
        due("laid back again", x.back(), 2);
    }

    private static void imageOfNothing() {
        sentence("AN IMAGE keeps WARM, PLUGS with their hours, what LED tells.");
        SwitchboardHeart x = new SwitchboardHeart();
        due("of a new board", x.image(), 0);
        x.line(50);
        x.line(60);
        x.putIn(1);
        x.hour();
        due("laid back", x.back(), 0);
        due("WARM as it is", x.of(0, 0), 55);
        due("through to nobody", x.of(0, 6), NOT);
        due("in", x.count(1), 0);
        for (int what = 0; what <= 4; what++) {
            due("led(" + what + ")", x.led(what), 0);
        }
        due("lines stay", x.count(0), 2);
        due("a cord is left", x.putIn(1), 1);
    }

    private static void imageWithLinesSince() {
        sentence("(LINES that came since: WARM as it is, through to nobody)");
        SwitchboardHeart x = townOf(3, 50);
        x.putIn(1);
        x.hour();
        x.image();
        x.line(70);
        x.line(80);
        x.pull(1);
        x.putIn(3);
        x.putIn(14);
        x.hour();
        x.back();
        due("0 as it was", x.of(0, 0), 55);
        due("2 as it was", x.of(2, 0), 48);
        due("3 as it is", x.of(3, 0), 75);
        due("4 as it is", x.of(4, 0), 85);
        due("3 through to nobody", x.of(3, 6), NOT);
        due("3 for no hours", x.of(3, 7), 0);
        due("0 through to 1", x.of(0, 6), 1);
        due("for one hour", x.of(1, 7), 1);
        due("in", x.count(1), 1);
        due("who is through", x.led(4), 3);
        due("put in", x.led(1), 1);
        due("pulled", x.led(2), 0);
        due("degrees", x.led(3), 10);
        x.hour();
        due("the law goes on with it", x.of(0, 7), 2);
    }

    private static void imageOfEightLines() {
        sentence("AN IMAGE keeps WARM, PLUGS with their hours");
        SwitchboardHeart x = townOf(8, 50);
        x.mend(0, 4, 4);
        int[] pairs = {7, 16, 25, 34};
        for (int pair : pairs) {
            x.putIn(pair);
            x.hour();
        }
        x.image();
        int[] warm = new int[8];
        for (int one = 0; one < 8; one++) {
            warm[one] = x.of(one, 0);
        }
        x.mend(0, 4, 0);
        for (int pair : pairs) {
            x.pull(pair);
        }
        x.hour();
        due("laid back, whatever CORDS there are", x.back(), 4);
        due("in", x.count(1), 4);
        for (int one = 0; one < 8; one++) {
            due("WARM of " + one, x.of(one, 0), warm[one]);
            due("through to", x.of(one, 6), 7 - one);
            due("for hours", x.of(one, 7), 4 - Math.min(one, 7 - one));
        }
        due("CORDS are not laid back", x.of(0, 4), 0);
        x.pull(7);
        due("and none is left", x.putIn(7), STATE);
    }

    private static void imageKeepsNoMore() {
        sentence("AN IMAGE keeps WARM");
        SwitchboardHeart x = townOf(2, 50);
        x.image();
        x.mend(0, 1, 77);
        x.mend(0, 2, 3);
        x.mend(1, 3, 9);
        x.mend(0, 4, 3);
        x.mend(0, 5, 7);
        x.mend(1, 0, 99);
        tell(x, "13");
        x.feed('7');
        x.row(0, 0, 5);
        x.body(1);
        x.act(0, 0, 1);
        x.back();
        due("WARM told since", x.of(1, 0), 50);
        due("NEEDS", x.of(0, 1), 77);
        due("PARTY", x.of(0, 2), 3);
        due("LIKES", x.of(1, 3), 9);
        due("CORDS", x.of(0, 4), 3);
        due("COLD", x.of(0, 5), 7);
        due("THE LAW", x.warmer(1, 0), 13);
        due("THE TAPE", x.count(2), 1);
        due("SHELVES", x.element(0, 4), 0);
        due("BODIES", x.count(4), 1);
        due("THE TRACE", x.trace(0), 20);
    }

    private static void imageAgain() {
        sentence("AN IMAGE is kept: hours.");
        SwitchboardHeart x = townOf(2, 50);
        x.image();
        x.putIn(1);
        x.hour();
        due("a later one", x.image(), 1);
        x.pull(1);
        x.hour();
        due("the later one", x.back(), 1);
        due("its WARM", x.of(0, 0), 55);
        due("its PLUGS", x.of(0, 7), 1);
        x.hour();
        due("its WARM is its own", x.back(), 1);
        due("its WARM", x.of(0, 0), 55);
        due("its PLUGS", x.of(0, 7), 1);
    }

    private static void noImage() {
        sentence("STATE: there is none.");
        SwitchboardHeart x = townOf(2, 50);
        x.putIn(1);
        x.hour();
        due("back()", x.back(), STATE);
        due("hours", x.led(0), 1);
        due("in", x.count(1), 1);
        due("WARM", x.of(0, 0), 55);
        due("back() of a new board", new SwitchboardHeart().back(), STATE);
    }

    // ---- 31, 32

    private static void noChange() {
        sentence("UNDONE: how many may still be. STATE: none.");
        SwitchboardHeart x = townOf(2, 50);
        due("no change", x.undo(), STATE);
        x.mend(0, 0, 51);
        due("one", x.undo(), 0);
        due("no more", x.undo(), STATE);
        due("WARM", x.of(0, 0), 50);
        sentence("DONE AGAIN: how many may still be. STATE: none.");
        due("one", x.redo(), 0);
        due("no more", x.redo(), STATE);
        due("WARM", x.of(0, 0), 51);
        due("of a new board", new SwitchboardHeart().redo(), STATE);
        due("of a new board", new SwitchboardHeart().undo(), STATE);
    }

    private static void changesOfEachNumber() {
        sentence("CHANGES (all numbers of mend();");
        int[][] mends = {{7, 0, 99}, {7, 1, 0}, {7, 2, 3}, {76, 3, -9}, {0, 4, 4}, {0, 5, 0}};
        int[] first = {50, 30, 0, 0, 2, 2};
        SwitchboardHeart x = townOf(8, 50);
        for (int i = 0; i < 6; i++) {
            x.mend(mends[i][0], mends[i][1], mends[i][2]);
            due("changes", x.count(3), i + 1);
        }
        for (int i = 5; i >= 0; i--) {
            due("the latest first", x.undo(), i);
            due("what " + i, x.of(mends[i][0], i), first[i]);
            due("changes", x.count(3), i);
        }
        for (int i = 0; i < 6; i++) {
            due("the latest that was undone first", x.redo(), 5 - i);
            due("what " + i, x.of(mends[i][0], i), mends[i][2]);
            due("changes", x.count(3), i + 1);
        }
    }

    private static void theSameIsNoChange() {
        sentence("telling the same number is none");
        SwitchboardHeart x = townOf(2, 50);
        int[][] same = {{0, 0, 50}, {0, 1, 30}, {0, 2, 0}, {1, 3, 0}, {0, 4, 2}, {0, 5, 2}};
        for (int[] one : same) {
            due("mend()", x.mend(one[0], one[1], one[2]), one[2]);
            due("changes", x.count(3), 0);
        }
        due("refused ones are none", x.mend(0, 0, 100), VOID);
        due("changes", x.count(3), 0);
        due("undo()", x.undo(), STATE);
    }

    private static void fortyChanges() {
        sentence("40 at most are kept");
        SwitchboardHeart x = town(10);
        for (int i = 1; i <= 40; i++) {
            x.mend(0, 0, 10 + i);
            due("changes", x.count(3), i);
        }
        for (int i = 39; i >= 0; i--) {
            due("undo()", x.undo(), i);
            due("WARM", x.of(0, 0), 10 + i);
        }
        due("no more", x.undo(), STATE);
        for (int i = 39; i >= 0; i--) {
            due("redo()", x.redo(), i);
            due("WARM", x.of(0, 0), 50 - i);
        }
        due("no more", x.redo(), STATE);
        due("changes", x.count(3), 40);
    }

    private static void fortyOneChanges() {
        sentence("40 at most are kept");
        SwitchboardHeart x = town(10, 20);
        x.mend(1, 1, 99);
        for (int i = 1; i <= 40; i++) {
            x.mend(0, 0, 10 + i);
        }
        due("the 41st", x.count(3), 40);
        for (int i = 39; i >= 0; i--) {
            due("undo()", x.undo(), i);
        }
        due("WARM", x.of(0, 0), 10);
        due("the first is not kept", x.undo(), STATE);
        due("NEEDS", x.of(1, 1), 99);
        due("redo()", x.redo(), 39);
        due("redo()", x.redo(), 38);
        due("WARM", x.of(0, 0), 12);
        due("undo()", x.undo(), 1);
        due("undo()", x.undo(), 0);
        x.redo();
        x.mend(0, 0, 77);
        due("two now", x.count(3), 2);
        for (int i = 0; i < 39; i++) {
            x.mend(0, 0, i);
        }
        due("40 again", x.count(3), 40);
        for (int i = 39; i >= 0; i--) {
            due("undo()", x.undo(), i);
        }
        due("WARM", x.of(0, 0), 11);
    }

    /** A change of each kind in turn, none of which tells the same number. */
    private static int[] unlike(int i) {
        int round = 1 + i / 6;
        int[][] all = {{i % 8, 0, 10 + round}, {i % 8, 1, 40 + round}, {i % 8, 2, 1 + round % 3}, {70 + i % 7, 3, round},
            {0, 4, 3 + round % 2}, {0, 5, 3 + round % 2}};
        return all[i % 6];
    }

    private static void fortyOneUnlikeChanges() {
        sentence("40 at most are kept");
        SwitchboardHeart x = townOf(8, 50);
        int[] was = new int[41];
        for (int i = 0; i < 41; i++) {
            was[i] = x.mend(unlike(i)[0], unlike(i)[1], unlike(i)[2]);
            due("changes", x.count(3), Math.min(40, i + 1));
        }
        for (int i = 40; i >= 1; i--) {
            due("undo()", x.undo(), i - 1);
            due("what it was, " + i, x.of(unlike(i)[0], unlike(i)[1]), was[i]);
        }
        due("the first is not kept", x.undo(), STATE);
        due("what it became", x.of(unlike(0)[0], unlike(0)[1]), unlike(0)[2]);
        for (int i = 1; i < 41; i++) {
            due("redo()", x.redo(), 40 - i);
            due("what it became, " + i, x.of(unlike(i)[0], unlike(i)[1]), unlike(i)[2]);
        }
        due("no more", x.redo(), STATE);
    }

    private static void doneAgain() {
        sentence("can be UNDONE, the latest first, and DONE AGAIN (as long as no other came behind)");
        SwitchboardHeart x = town(10);
        x.mend(0, 0, 11);
        x.mend(0, 0, 12);
        x.mend(0, 0, 13);
        due("undo()", x.undo(), 2);
        due("undo()", x.undo(), 1);
        due("redo()", x.redo(), 1);
        due("WARM", x.of(0, 0), 12);
        due("undo()", x.undo(), 1);
        due("undo()", x.undo(), 0);
        due("redo()", x.redo(), 2);
        due("redo()", x.redo(), 1);
        due("redo()", x.redo(), 0);
        due("redo()", x.redo(), STATE);
        due("WARM", x.of(0, 0), 13);
    }

    private static void whatEndsDoneAgain() {
        sentence("(as long as no other came behind)");
        int[][] others = {{0, 0, 77}, {0, 1, 77}, {0, 2, 3}, {1, 3, 9}, {0, 4, 0}, {0, 5, 0}};
        for (int[] other : others) {
            SwitchboardHeart x = town(10, 20);
            x.mend(0, 0, 11);
            x.mend(0, 0, 12);
            x.mend(0, 0, 13);
            x.undo();
            x.undo();
            x.mend(other[0], other[1], other[2]);
            due("behind another", x.redo(), STATE);
            due("changes", x.count(3), 2);
            due("it is undone first", x.undo(), 1);
            due("then the one ahead", x.undo(), 0);
            due("WARM", x.of(0, 0), 10);
            due("and done again", x.redo(), 1);
            due("and done again", x.redo(), 0);
            due("and no more", x.redo(), STATE);
            due("what it became", x.of(other[0], other[1]), other[2]);
        }
        SwitchboardHeart y = town(10);
        y.mend(0, 0, 11);
        y.undo();
        y.mend(0, 0, 11);
        due("one like that which was undone", y.redo(), STATE);
        due("changes", y.count(3), 1);
    }

    private static void whatDoesNotEndIt() {
        sentence("A mend() to the same is no CHANGE; deeds, back() neither end nor undo one.");
        SwitchboardHeart x = town(10, 20);
        x.image();
        x.mend(0, 1, 11);
        x.mend(0, 0, 12);
        x.undo();
        x.mend(0, 0, 10);
        x.mend(0, 0, 100);
        x.mend(9, 0, 10);
        x.putIn(1);
        x.hour();
        x.pull(1);
        x.image();
        x.hour();
        x.back();
        x.line(5);
        tell(x, "7");
        tell(x, "x");
        x.row(0, 0, 3);
        x.lines(0, 0, 1);
        x.drawn(1, 101, 0);
        due("WARM ahead", x.of(0, 0), 15);
        due("may be undone", x.count(3), 1);
        due("redo()", x.redo(), 0);
        due("WARM", x.of(0, 0), 12);
        due("undo()", x.undo(), 1);
        due("undo()", x.undo(), 0);
        due("NEEDS", x.of(0, 1), 30);
    }

    private static void deedsAreNone() {
        sentence("deeds are none (WARM by them, too)");
        SwitchboardHeart x = town(10, 20);
        x.putIn(1);
        x.hour();
        x.pull(1);
        x.hour();
        x.image();
        due("changes", x.count(3), 0);
        due("undo()", x.undo(), STATE);
        due("WARM", x.of(0, 0), 13);
        x.mend(1, 1, 5);
        x.putIn(1);
        x.hour();
        due("undo()", x.undo(), 0);
        due("NEEDS", x.of(1, 1), 30);
        due("WARM stays", x.of(0, 0), 18);
        due("in stays", x.count(1), 1);
        due("hours stay", x.led(0), 3);
    }

    private static void backIsNone() {
        sentence("deeds, back() neither end nor undo one");
        SwitchboardHeart x = town(10, 20);
        x.image();
        x.mend(0, 0, 90);
        x.mend(0, 1, 91);
        due("back()", x.back(), 0);
        due("WARM is laid back", x.of(0, 0), 10);
        due("changes", x.count(3), 2);
        due("undo() of NEEDS", x.undo(), 1);
        due("undo() of WARM", x.undo(), 0);
        due("WARM as it was told from", x.of(0, 0), 10);
        x.back();
        due("redo() of WARM", x.redo(), 1);
        due("WARM as it was told", x.of(0, 0), 90);
    }

    private static void undoneAtTheEnds() {
        sentence("UNDONE: how many may still be.");
        SwitchboardHeart x = townOf(2, 99);
        x.mend(0, 0, 0);
        x.mend(0, 1, 99);
        x.mend(1, 3, 9);
        x.mend(1, 3, -9);
        x.mend(0, 4, 0);
        x.mend(0, 5, 9);
        due("COLD", x.undo(), 5);
        due("CORDS", x.undo(), 4);
        due("a cord is left again", x.putIn(1), 1);
        due("LIKES", x.undo(), 3);
        due("LIKES 9", x.of(1, 3), 9);
        due("LIKES", x.undo(), 2);
        due("LIKES 0", x.of(1, 3), 0);
        due("NEEDS", x.undo(), 1);
        due("WARM", x.undo(), 0);
        due("WARM 99", x.of(0, 0), 99);
        for (int i = 0; i < 6; i++) {
            due("redo()", x.redo(), 5 - i);
        }
        due("WARM 0", x.of(0, 0), 0);
        due("LIKES -9", x.of(1, 3), -9);
        due("CORDS 0, the pair stays in", x.count(1), 1);
    }
}
