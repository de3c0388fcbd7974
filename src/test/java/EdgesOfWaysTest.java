/** The edges of ways of plugs: Terms 2 and 3, promises 14 to 20. */
public final class EdgesOfWaysTest extends Board {
    private EdgesOfWaysTest() {
    }

    public static void main(String[] args) {
        bestOfFewLines();
        bestPairs();
        bestWithinCords();
        bestOfNeeds();
        bestOfLikeOnes();
        bestOrder();
        bestHours();
        bestRefused();
        stableOfFewLines();
        stableLikings();
        stableLikesAtNought();
        stableLikeOnes();
        stableEightLines();
        stableRefused();
        soonHours();
        soonWhatever();
        soonBothAtOnce();
        soonRefused();
        insteadOfWhom();
        insteadLikes();
        whichIsTold();
        whichLacks();
        whichFewLines();
        whichWithinCords();
        whichHours();
        whichRefused();
        sure();
        lampParts();
        lampNone();
        askedFirst();
        Due.end();
    }

    private static void like(SwitchboardHeart x, int ab, int v, int ba, int back) {
        x.mend(ab, 3, v);
        x.mend(ba, 3, back);
    }

    // ---- 14

    private static void bestOfFewLines() {
        sentence("BEST by WARM (what 0), by NEEDS (1): that (k -1), the k-th pair (NOT). BAD.");
        SwitchboardHeart x = new SwitchboardHeart();
        due("no lines, WARM", x.best(0, -1), 0);
        due("no lines, NEEDS", x.best(1, -1), 0);
        due("no lines, a pair", x.best(0, 0), NOT);
        due("no lines, a pair", x.best(1, 0), NOT);
        x.line(1);
        due("one line, WARM", x.best(0, -1), 0);
        due("one line, a pair", x.best(0, 0), NOT);
        x.mend(0, 1, 0);
        due("one line, NEEDS", x.best(1, -1), 1);
        due("one line, a pair", x.best(1, 0), NOT);
        x.line(30);
        due("two lines, WARM", x.best(0, -1), 6 + 35);
        due("two lines, the pair", x.best(0, 0), 1);
        due("two lines, no second pair", x.best(0, 1), NOT);
    }

    private static void bestPairs() {
        sentence("NOT: there are not as many pairs");
        SwitchboardHeart x = townOf(8, 50);
        x.mend(0, 4, 4);
        due("all eight", x.best(0, -1), 8 * 55);
        int[] pairs = {1, 23, 45, 67, NOT, NOT};
        for (int k = 0; k < pairs.length; k++) {
            due("by WARM, k " + k, x.best(0, k), pairs[k]);
        }
        due("k far", x.best(0, MOST), NOT);
        due("k far, by NEEDS", x.best(1, MOST), NOT);
        sentence("10 times the lesser and the other, pairs in order");
        SwitchboardHeart y = townOf(8, 50);
        y.mend(0, 4, 4);
        int[] liked = {70, 16, 25, 43};
        for (int ab : liked) {
            y.mend(ab, 3, 9);
        }
        int[] inOrder = {7, 16, 25, 34, NOT};
        for (int k = 0; k < inOrder.length; k++) {
            due("k " + k, y.best(0, k), inOrder[k]);
        }
        due("WARM", y.best(0, -1), 8 * 55 + 36);
    }

    private static void bestWithinCords() {
        sentence("BEST: the PLUGS of this hour");
        SwitchboardHeart x = townOf(8, 50);
        int[] most = {8 * 48, 2 * 55 + 6 * 48, 4 * 55 + 4 * 48, 6 * 55 + 2 * 48, 8 * 55};
        for (int cords = 0; cords <= 4; cords++) {
            x.mend(0, 4, cords);
            due("WARM with " + cords, x.best(0, -1), most[cords]);
            due("pairs with " + cords, x.best(0, cords), NOT);
        }
        int[] first = {67, 45, 23, 1};
        for (int cords = 1; cords <= 4; cords++) {
            x.mend(0, 4, cords);
            due("the first pair with " + cords, x.best(0, 0), first[cords - 1]);
            due("the last pair with " + cords, x.best(0, cords - 1), 67);
        }
        x.mend(0, 4, 0);
        due("no pair", x.best(0, 0), NOT);
        due("no pair by NEEDS", x.best(1, 0), NOT);
        due("by NEEDS", x.best(1, -1), 8);
    }

    private static void bestOfNeeds() {
        sentence("(or, what is told: by which most have NEEDS)");
        SwitchboardHeart x = town(25, 24, 31, 99);
        x.mend(0, 4, 1);
        // through they have 30, 29, 36, 99, else 23, 22, 29, 97
        due("0, 2, 3", x.best(1, -1), 3);
        due("the one pair", x.best(1, 0), 2);
        due("no second pair", x.best(1, 1), NOT);
        due("by WARM another one is first", x.best(0, 0), 12);
        x.mend(1, 1, 29);
        due("three by 01, 02 or 12", x.best(1, -1), 3);
        due("the first of like ones: 0 through to nobody", x.best(1, 0), 12);
        x.mend(0, 4, 2);
        due("all four", x.best(1, -1), 4);
        due("the second pair", x.best(1, 1), 23);
    }

    private static void bestOfLikeOnes() {
        sentence("of like ones the first: ways are gone through LINE by LINE from 0 on, each not yet through: to nobody first");
        SwitchboardHeart x = townOf(8, 50);
        x.mend(0, 5, 0);
        x.mend(0, 4, 4);
        tell(x, "0");
        due("all ways are alike: nobody", x.best(0, -1), 400);
        due("no pair", x.best(0, 0), NOT);
        due("by NEEDS", x.best(1, -1), 8);
        due("no pair", x.best(1, 0), NOT);
        SwitchboardHeart y = townOf(2, 0);
        y.mend(0, 5, 0);
        tell(y, "-20");
        due("at 0 all are alike", y.best(0, 0), NOT);
        y.line(1);
        due("1 less is no more", y.best(0, -1), 1);
        due("nobody", y.best(0, 0), NOT);
    }

    private static void bestOrder() {
        sentence("then to those of greater number not yet through, the least first");
        SwitchboardHeart x = townOf(4, 50);
        x.mend(0, 5, 0);
        tell(x, "1");
        due("two pairs", x.best(0, 0), 1);
        due("two pairs", x.best(0, 1), 23);
        x.mend(0, 4, 1);
        due("one pair: 0 and 1 through to nobody first", x.best(0, 0), 23);
        tell(x, "l");
        x.mend(3, 3, 1);
        x.mend(13, 3, 1);
        due("13 ahead of 03", x.best(0, 0), 13);
        x.mend(2, 3, 1);
        x.mend(13, 3, 0);
        due("02 ahead of 03", x.best(0, 0), 2);
        x.mend(1, 3, 1);
        due("01 ahead of 02", x.best(0, 0), 1);
        SwitchboardHeart y = townOf(4, 50);
        y.mend(0, 5, 0);
        tell(y, "l");
        int[][] ways = {{3, 12}, {2, 13}, {1, 23}};
        for (int[] way : ways) {
            y.mend(way[0], 3, 1);
            y.mend(way[1], 3, 1);
            due("ahead of those liked as much", y.best(0, 0), way[0]);
            due("ahead of those liked as much", y.best(0, 1), way[1]);
        }
    }

    private static void bestHours() {
        sentence("(no pair was in ahead: h 0)");
        SwitchboardHeart x = townOf(3, 50);
        x.mend(0, 4, 1);
        tell(x, "h*20+1");
        x.putIn(12);
        x.hour();
        x.hour();
        due("WARM of 0", x.of(0, 0), 46);
        due("WARM of 1", x.of(1, 0), 71);
        due("the cord is free, h is 0", x.best(0, -1), 47 + 72 + 69);
        due("the first of like ones", x.best(0, 0), 12);
        x.mend(2, 3, 9);
        tell(x, "l+h*20");
        due("the lines are free", x.best(0, 0), 2);
        due("h is 0", x.best(0, -1), 55 + 69 + 71);
    }

    private static void bestRefused() {
        sentence("`int best(int what, int k)`");
        SwitchboardHeart x = townOf(2, 50);
        refusedOutside("best(.., -1)", 0, 1, BAD, what -> x.best(what, -1));
        refusedOutside("best(.., 5)", 0, 1, BAD, what -> x.best(what, 5));
        int[] below = {-2, -3, LEAST};
        for (int k : below) {
            due("best(0, " + k + ")", x.best(0, k), BAD);
            due("best(1, " + k + ")", x.best(1, k), BAD);
        }
    }

    // ---- 15

    private static void stableOfFewLines() {
        sentence("how many such ways; the k-th pair of the first.");
        SwitchboardHeart x = new SwitchboardHeart();
        due("no lines: one way", x.stable(-1), 1);
        due("no pair", x.stable(0), NOT);
        x.line(50);
        due("one line: one way", x.stable(-1), 1);
        due("no pair", x.stable(0), NOT);
        x.line(50);
        due("two: through or not", x.stable(-1), 2);
        due("not is first", x.stable(0), NOT);
        like(x, 1, 1, 10, 1);
        due("both like: through", x.stable(-1), 1);
        due("the pair", x.stable(0), 1);
        due("no second pair", x.stable(1), NOT);
        due("k far", x.stable(MOST), NOT);
    }

    private static void stableLikings() {
        sentence("no one likes whom it has less than 0");
        SwitchboardHeart x = townOf(2, 50);
        like(x, 1, -1, 10, 9);
        due("0 would not", x.stable(-1), 1);
        due("not through", x.stable(0), NOT);
        like(x, 1, 9, 10, -1);
        due("1 would not", x.stable(-1), 1);
        due("not through", x.stable(0), NOT);
        like(x, 1, -9, 10, -9);
        due("neither would", x.stable(-1), 1);
        like(x, 1, 0, 10, 0);
        due("0 is not less than 0", x.stable(-1), 2);
        like(x, 1, 9, 10, 0);
        due("through, or not, as 1 would not rather", x.stable(-1), 2);
    }

    private static void stableLikesAtNought() {
        sentence("both like the other one more than whom they have (who has none: more than 0)");
        SwitchboardHeart x = townOf(2, 50);
        like(x, 1, 1, 10, 0);
        due("1 and 0: not through is first", x.stable(0), NOT);
        like(x, 1, 0, 10, 1);
        due("0 and 1: not through is first", x.stable(0), NOT);
        like(x, 1, 1, 10, 1);
        due("1 and 1: through", x.stable(0), 1);
    }

    private static void stableLikeOnes() {
        sentence("no two LINES would rather be through to each other");
        SwitchboardHeart x = townOf(3, 50);
        like(x, 1, 5, 10, 5);
        like(x, 2, 5, 20, 5);
        due("as much as whom it has is not more", x.stable(-1), 2);
        due("01 is first", x.stable(0), 1);
        x.mend(2, 3, 6);
        due("0 would rather, and 2 has none", x.stable(-1), 1);
        due("02", x.stable(0), 2);
        x.mend(2, 3, 4);
        due("0 would not", x.stable(-1), 1);
        due("01", x.stable(0), 1);
        SwitchboardHeart y = townOf(3, 50);
        like(y, 1, 2, 10, 1);
        like(y, 12, 2, 21, 1);
        like(y, 20, 2, 2, 1);
        due("none is such", y.stable(-1), 0);
        due("none is such", y.stable(0), NOT);
    }

    private static void stableEightLines() {
        sentence("STABLE: PLUGS (however many CORDS)");
        SwitchboardHeart x = townOf(8, 50);
        due("all ways of eight", x.stable(-1), 764);
        due("nobody is first", x.stable(0), NOT);
        like(x, 7, 9, 70, 9);
        like(x, 16, 9, 61, 9);
        like(x, 25, 9, 52, 9);
        like(x, 34, 9, 43, 9);
        for (int cords = 0; cords <= 4; cords += 2) {
            x.mend(0, 4, cords);
            due("one way with " + cords, x.stable(-1), 1);
            due("k 0", x.stable(0), 7);
            due("k 1", x.stable(1), 16);
            due("k 2", x.stable(2), 25);
            due("k 3", x.stable(3), 34);
            due("k 4", x.stable(4), NOT);
        }
    }

    private static void stableRefused() {
        sentence("STABLE: how many (k -1), the k-th pair of the first (NOT). BAD.");
        SwitchboardHeart x = townOf(2, 50);
        due("k -2", x.stable(-2), BAD);
        due("k -3", x.stable(-3), BAD);
        due("k least", x.stable(LEAST), BAD);
        due("k most", x.stable(MOST), NOT);
    }

    // ---- 16, 17

    private static void soonHours() {
        sentence("SOON: behind how many hours (0 .. 60) two have both NEEDS, if these two alone are through all the time; NOT.");
        SwitchboardHeart x = town(0, 99);
        tell(x, "1");
        int[] needs = {0, 1, 2, 59, 60};
        for (int n : needs) {
            x.mend(0, 1, n);
            due("NEEDS " + n, x.soon(1), n);
            due("NEEDS " + n, x.soon(10), n);
        }
        x.mend(0, 1, 61);
        due("NEEDS 61", x.soon(1), NOT);
        x.mend(0, 0, 1);
        due("NEEDS 61 from 1 on", x.soon(1), 60);
        x.mend(0, 0, 61);
        due("as much as it needs", x.soon(1), 0);
        x.mend(0, 0, 60);
        due("one less", x.soon(1), 1);
        tell(x, "h=59?20;0");
        due("by the 60th hour", x.soon(1), 60);
        tell(x, "h=60?20;0");
        due("not by the 61st", x.soon(1), NOT);
    }

    private static void soonWhatever() {
        sentence("SOON begins with no PLUGS, whatever CORDS there are.");
        SwitchboardHeart x = townOf(4, 20);
        x.mend(0, 4, 0);
        due("no CORDS", x.soon(1), 2);
        x.mend(0, 4, 2);
        tell(x, "h");
        x.putIn(1);
        x.putIn(23);
        due("h from 0 on: 0, 1, 2, 3, 4", x.soon(1), 5);
        x.hour();
        due("WARM", x.of(0, 0), 20);
        due("h from 0 on", x.soon(1), 5);
        due("two that are in with others", x.soon(12), 5);
    }

    private static void soonBothAtOnce() {
        sentence("two have both NEEDS");
        SwitchboardHeart x = town(50, 40);
        tell(x, "w>45?-5;5");
        x.mend(0, 1, 46);
        x.mend(1, 1, 46);
        // 0: 50, 45, 50, ..; 1: 40, 45, 50, ..: both behind two hours
        due("not one ahead of the other", x.soon(1), 2);
        x.mend(1, 0, 45);
        due("never at once", x.soon(1), NOT);
    }

    private static void soonRefused() {
        sentence("SOON. BAD; NOT.");
        SwitchboardHeart x = townOf(8, 50);
        refusedPairs("soon(..)", 8, BAD, x::soon);
        due("the last two", x.soon(76), 0);
        due("without lines", new SwitchboardHeart().soon(1), BAD);
        due("with one", townOf(1, 50).soon(1), BAD);
    }

    private static void insteadOfWhom() {
        sentence("whom it likes most of all but these two (of like ones the least); NOT: there is none.");
        SwitchboardHeart x = townOf(2, 50);
        x.mend(1, 3, 9);
        due("two lines", x.instead(1), NOT);
        due("two lines", x.instead(10), NOT);
        x.line(50);
        due("the third", x.instead(1), 2);
        due("the third", x.instead(10), 2);
        due("the third", x.instead(2), 1);
        due("the third", x.instead(21), 0);
        x.mend(2, 3, -9);
        due("how little it likes it", x.instead(1), 2);
        x.line(50);
        x.mend(3, 3, -9);
        due("the least of like ones", x.instead(1), 2);
        x.mend(3, 3, -8);
        due("the one that it likes more", x.instead(1), 3);
        due("but the dead one", x.instead(3), 1);
    }

    private static void insteadLikes() {
        sentence("INSTEAD: for a dead one, by another one's LIKES");
        SwitchboardHeart x = townOf(8, 50);
        due("the least", x.instead(76), 0);
        due("the least but these", x.instead(1), 2);
        due("the least but these", x.instead(70), 1);
        x.mend(76, 3, 9);
        x.mend(75, 3, 8);
        due("not the dead one", x.instead(76), 5);
        due("another dead one", x.instead(75), 6);
        due("by its own LIKES", x.instead(67), 0);
        refusedPairs("instead(..)", 8, BAD, x::instead);
        sentence("INSTEAD of the dead one (ab: the one, the dead one). BAD; NOT.");
        SwitchboardHeart y = townOf(2, 50);
        refusedPairs("instead(..) of two", 2, BAD, y::instead);
        due("without lines", new SwitchboardHeart().instead(1), BAD);
    }

    // ---- 18 to 20

    private static void told(SwitchboardHeart x, int ways, int first, int sure, int lamp, int... row) {
        bytes(x, 0, row);
        String of = " of " + java.util.Arrays.toString(row);
        due("ways" + of, x.which(0, -1), ways);
        due("the first pair" + of, x.which(0, 0), first);
        due("SURE" + of, x.sure(0), sure);
        due("LAMP" + of, x.lamp(0), lamp);
    }

    private static void whichIsTold() {
        sentence("WARM of all behind this hour is told (a ROW of bytes, LINE by LINE; what lacks is any)");
        SwitchboardHeart x = townOf(2, 50);
        told(x, 1, 1, 3, 0, 55, 55);
        told(x, 1, NOT, 0, 0, 48, 48);
        told(x, 0, NOT, 0, NOT, 55, 48);
        told(x, 0, NOT, 0, NOT, 50, 50);
        told(x, 0, NOT, 0, NOT, -1, 55);
        told(x, 0, NOT, 0, NOT, 55, -128);
        told(x, 0, NOT, 0, NOT, 100, 127);
        due("no second pair", x.which(0, 1), NOT);
        SwitchboardHeart y = town(1, 0);
        told(y, 1, NOT, 0, 0, 0, 0);
        SwitchboardHeart z = town(99, 94);
        told(z, 1, 1, 3, 0, 99, 99);
        SwitchboardHeart u = town(50, 50);
        tell(u, "-2");
        told(u, 2, NOT, 0, 0, 48, 48);
    }

    private static void whichLacks() {
        sentence("what lacks is any");
        SwitchboardHeart x = townOf(2, 50);
        told(x, 2, NOT, 0, 0);
        told(x, 1, 1, 3, 0, 55);
        told(x, 1, NOT, 0, 0, 48);
        told(x, 0, NOT, 0, NOT, 49);
        sentence("WHICH: what is behind the last LINE doesn't matter.");
        told(x, 1, 1, 3, 0, 55, 55, 99);
        told(x, 1, 1, 3, 0, 55, 55, -128, 127, 0, 48);
        told(x, 0, NOT, 0, NOT, 55, 48, 55);
        x.row(0, 0, 60);
        x.put(0, 0, 48);
        x.put(0, 1, 48);
        due("a row of 60", x.which(0, -1), 1);
    }

    private static void whichFewLines() {
        sentence("how many ways of PLUGS (within CORDS) make it so; the k-th pair of the first; NOT.");
        SwitchboardHeart x = new SwitchboardHeart();
        told(x, 1, NOT, 0, NOT);
        told(x, 1, NOT, 0, NOT, 50);
        x.line(50);
        told(x, 1, NOT, 0, 0);
        told(x, 1, NOT, 0, 0, 48);
        told(x, 0, NOT, 0, NOT, 55);
        SwitchboardHeart y = townOf(8, 50);
        y.mend(0, 4, 4);
        told(y, 105, 1, 255, 0, 55, 55, 55, 55, 55, 55, 55, 55);
        due("k 3", y.which(0, 3), 67);
        due("k 4", y.which(0, 4), NOT);
        due("k most", y.which(0, MOST), NOT);
    }

    private static void whichWithinCords() {
        sentence("ways of PLUGS (within CORDS)");
        SwitchboardHeart x = townOf(8, 50);
        int[] ways = {1, 1 + 28, 1 + 28 + 210, 1 + 28 + 210 + 420, 764};
        bytes(x, 0);
        for (int cords = 0; cords <= 4; cords++) {
            x.mend(0, 4, cords);
            due("any, with " + cords, x.which(0, -1), ways[cords]);
        }
        x.mend(0, 4, 3);
        bytes(x, 0, 55, 55, 55, 55, 55, 55, 55, 55);
        due("four pairs with three", x.which(0, -1), 0);
    }

    private static void whichHours() {
        sentence("WHICH (no pair was in ahead: h 0)");
        SwitchboardHeart x = townOf(4, 50);
        x.mend(0, 4, 1);
        tell(x, "h+9");
        x.putIn(1);
        x.hour();
        due("WARM of 0", x.of(0, 0), 59);
        bytes(x, 0, 68, 68, 46, 46);
        due("h is 0", x.which(0, -1), 1);
        due("this pair", x.which(0, 0), 1);
        bytes(x, 0, 57, 57, 57, 57);
        due("the cord is free", x.which(0, 0), 23);
        due("SURE", x.sure(0), 4 + 8);
    }

    private static void whichRefused() {
        sentence("WHICH: how many (k -1), the k-th pair of the first (NOT). BAD, -11, -12.");
        refusedDays("which, how many", 2, a -> a.x().which(a.shelf(), -1), false);
        refusedDays("which, a pair", 2, a -> a.x().which(a.shelf(), 0), false);
        refusedDays("which, a pair that is not there", 2, a -> a.x().which(a.shelf(), 9), false);
        refusedDays("which, without lines", 0, a -> a.x().which(a.shelf(), 0), false);
        SwitchboardHeart x = townOf(2, 50);
        bytes(x, 0, 55, 55);
        due("k -2", x.which(0, -2), BAD);
        due("k least", x.which(0, LEAST), BAD);
        due("k most", x.which(0, MOST), NOT);
    }

    private static void sure() {
        sentence("SURE: which LINES (bits) are through in all of them; 0 without any.");
        SwitchboardHeart x = townOf(8, 50);
        x.mend(0, 4, 4);
        // 0 is through to 5, 6 or 7; of these the other two are through or not
        told(x, 6, 5, 1, 5, 55, 48, 48, 48, 48);
        told(x, 1, 7, 129, 0, 55, 48, 48, 48, 48, 48, 48, 55);
        told(x, 0, NOT, 0, NOT, 55, 48, 48, 48, 48, 48, 48, 48);
        sentence("SURE: bits. BAD, -11, -12.");
        refusedDays("sure", 2, a -> a.x().sure(a.shelf()), false);
        refusedDays("sure, without lines", 0, a -> a.x().sure(a.shelf()), false);
    }

    private static void lampParts() {
        sentence("by which the greater of both is least (of like ones the least)");
        SwitchboardHeart x = townOf(3, 50);
        // 0 is through to 1 or to 2: 0 parts two and none, 1 and 2 one and one
        told(x, 2, 1, 1, 1, 55);
        // through are 0 and 1, 0 and 2, 1 and 2, or nobody: each parts two and two
        told(x, 4, NOT, 0, 0);
        SwitchboardHeart y = townOf(4, 50);
        y.mend(0, 4, 1);
        // one cord: each of four is through in three of seven ways
        told(y, 7, NOT, 0, 0);
        // 0 is not through: 1, 2, 3 in two of four ways each
        told(y, 4, NOT, 0, 1, 48);
        // 0 and 1 are not through: 2 and 3 or nobody
        told(y, 2, NOT, 0, 2, 48, 48);
        told(y, 1, 23, 12, 0, 48, 48, 55);
    }

    private static void lampNone() {
        sentence("LAMP. BAD, -11 (of an empty SHELF, ahead of NOT), -12; NOT.");
        refusedDays("lamp", 2, a -> a.x().lamp(a.shelf()), false);
        refusedDays("lamp, without lines", 0, a -> a.x().lamp(a.shelf()), false);
        sentence("NOT, asked last: there is no way, or no LINE.");
        SwitchboardHeart x = new SwitchboardHeart();
        bytes(x, 0);
        due("no LINE", x.lamp(0), NOT);
        bytes(x, 0, 48);
        due("no LINE", x.lamp(0), NOT);
        x.line(50);
        due("one LINE, one way", x.lamp(0), 0);
        bytes(x, 0, 49);
        due("no way", x.lamp(0), NOT);
        bytes(x, 0, 48);
        due("one way again", x.lamp(0), 0);
    }

    private static void askedFirst() {
        sentence("if one saw whether it is through, parts these ways best");
        SwitchboardHeart x = townOf(3, 50);
        bytes(x, 0, 55);
        due("LAMP, asked ahead of WHICH and SURE", x.lamp(0), 1);
        bytes(x, 0);
        due("LAMP of another row", x.lamp(0), 0);
        bytes(x, 0, 48, 55);
        due("SURE, asked ahead of WHICH", x.sure(0), 2 + 4);
        bytes(x, 0, 55, 48);
        due("SURE of another row", x.sure(0), 1 + 4);
        due("a pair of the first, asked ahead of how many", x.which(0, 0), 2);
        bytes(x, 0, 48, 48);
        due("how many", x.which(0, -1), 1);
    }
}
