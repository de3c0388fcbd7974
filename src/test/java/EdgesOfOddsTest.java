import java.util.Arrays;

/** The edges of what is cut, answered first, made of it by nieces, and drawn: Terms 3 and 4, promises 21 to 24. */
public final class EdgesOfOddsTest extends Board {
    private EdgesOfOddsTest() {
    }

    public static void main(String[] args) {
        cutBetween();
        cutForHours();
        cutOfWhoDoesNotKnow();
        cutTakesNoCord();
        cutEachByItself();
        cutParty();
        cutRefused();
        firstOfAll();
        niecesSkill();
        niecesWarmth();
        niecesPart();
        niecesSixPairs();
        niecesUnlawful();
        niecesNextAbove();
        niecesNotThrough();
        niecesFraction();
        niecesHour();
        niecesEmptyHour();
        niecesRefused();
        drawnWintersAndHours();
        drawnNumbers();
        drawnSeeds();
        drawnUnlawful();
        drawnFromNow();
        drawnRefused();
        Due.end();
    }

    // ---- 21, 22

    private static void cutBetween() {
        sentence("which LINES (bits), neither that one nor a told other one");
        SwitchboardHeart x = townOf(8, 50);
        bytes(x, 0, 70, -1, 1);
        due("7 to 1 by 0", x.cut(0, 2, 71), 1);
        bytes(x, 0, 7, -1, 71);
        due("0 to 1 by 7", x.cut(0, 2, 1), 128);
        bytes(x, 0, 1);
        due("nobody between", x.cut(0, 1, 1), 0);
        bytes(x, 0, 60, -1, 7);
        due("6 to 7 by 0", x.cut(0, 2, 67), 1);
        bytes(x, 0, 76, -1, 75);
        due("6 to 5 by 7", x.cut(0, 2, 65), 128);
        due("5 to 6 never", x.cut(0, 2, 56), 0);
        bytes(x, 0, 1, -1, 12, -1, 23, -1, 34, -1, 45, -1, 56, -1, 67);
        due("all between", x.cut(0, 7, 7), 2 + 4 + 8 + 16 + 32 + 64);
        due("all between", x.cut(0, 60, 7), 2 + 4 + 8 + 16 + 32 + 64);
    }

    private static void cutForHours() {
        sentence("keep it from that other one for n hours");
        SwitchboardHeart x = townOf(5, 50);
        bytes(x, 0, 1, -1, 12, 3, -1, 23);
        due("n 0", x.cut(0, 0, 2), 0);
        due("n 1", x.cut(0, 1, 2), 0);
        due("n 2", x.cut(0, 2, 2), 2);
        due("n 3: it hears it by 3 then", x.cut(0, 3, 2), 0);
        due("n 60", x.cut(0, 60, 2), 0);
        refusedOutside("cut(0, .., 2)", 0, 60, BAD, n -> x.cut(0, n, 2));
    }

    private static void cutOfWhoDoesNotKnow() {
        sentence("(it would know it else; 0 if it does not)");
        SwitchboardHeart x = townOf(4, 50);
        bytes(x, 0, 1, -1, 12);
        due("3 never does", x.cut(0, 60, 3), 0);
        due("n 0", x.cut(0, 0, 1), 0);
        bytes(x, 0);
        due("without pairs", x.cut(0, 60, 1), 0);
        bytes(x, 0, -1, -1);
        due("without pairs", x.cut(0, 60, 1), 0);
    }

    private static void cutTakesNoCord() {
        sentence("CUT: what is left out takes no CORD, each LINE by itself.");
        SwitchboardHeart x = townOf(5, 50);
        x.mend(0, 4, 1);
        bytes(x, 0, 3, 1, -1, 32, -1, 12);
        due("without 3, 1 has its cord, and hears it", x.cut(0, 2, 2), 8);
        due("and tells it behind the third hour", x.cut(0, 3, 2), 0);
        x.mend(0, 4, 2);
        due("with two cords 1 hears it as well", x.cut(0, 3, 2), 0);
        bytes(x, 0, 3, 30, 1, -1, 32);
        due("an UNLAWFUL one neither", x.cut(0, 2, 2), 8);
    }

    private static void cutEachByItself() {
        sentence("each LINE by itself");
        SwitchboardHeart x = townOf(6, 50);
        x.mend(0, 4, 4);
        x.mend(2, 2, 1);
        x.mend(3, 2, 1);
        bytes(x, 0, 2, -1, 34, 25);
        due("2 and 3 tell 4 and 5", x.news(0, 2, 0, -1), 1 + 4 + 8 + 16 + 32);
        due("4 needs both", x.cut(0, 2, 4), 4 + 8);
        due("5 needs 2", x.cut(0, 2, 5), 4);
        bytes(x, 0, 1, 2, -1, 15, 25);
        due("2 takes the place of 1", x.cut(0, 2, 5), 0);
    }

    private static void cutParty() {
        sentence("if all pairs with them were left out (and their PARTY were 0)");
        SwitchboardHeart x = townOf(6, 50);
        x.mend(1, 2, 3);
        x.mend(2, 2, 3);
        x.mend(4, 2, 3);
        bytes(x, 0, 1);
        due("by the party line", x.cut(0, 1, 2), 2);
        bytes(x, 0, 1, -1, 25);
        due("who is on it and told", x.cut(0, 2, 5), 2 + 4);
        bytes(x, 0, 1, -1, 5);
        due("nobody between", x.cut(0, 2, 5), 0);
    }

    private static void cutRefused() {
        sentence("CUT (ab: who knows it, who should not): bits. BAD, -11, -12.");
        SwitchboardHeart x = townOf(8, 50);
        bytes(x, 0, 76);
        refusedPairs("cut(0, 1, ..)", 8, BAD, ab -> x.cut(0, 1, ab));
        refusedDays("cut", 2, a -> a.x().cut(a.shelf(), 0, 1), false);
        due("without lines", refusedWithoutLines(), BAD);
    }

    private static int refusedWithoutLines() {
        SwitchboardHeart x = new SwitchboardHeart();
        bytes(x, 0);
        return x.cut(0, 0, 1);
    }

    private static void firstOfAll() {
        sentence("most NEEDS less WARM (of like ones the least; none above 0: NOT)");
        SwitchboardHeart x = new SwitchboardHeart();
        due("no line", x.first(), NOT);
        x.line(31);
        due("31 of 30", x.first(), NOT);
        x.line(30);
        due("30 of 30", x.first(), NOT);
        x.line(29);
        due("29 of 30", x.first(), 2);
        x.line(29);
        due("of like ones the least", x.first(), 2);
        x.mend(3, 0, 28);
        due("most", x.first(), 3);
        x.mend(0, 0, 0);
        x.mend(0, 1, 99);
        due("99", x.first(), 0);
        for (int i = 4; i < 8; i++) {
            x.line(0);
            x.mend(i, 1, 99);
        }
        due("99, the least", x.first(), 0);
        x.mend(0, 1, 98);
        due("99 ahead of 98", x.first(), 4);
        SwitchboardHeart y = townOf(8, 99);
        y.mend(7, 1, 99);
        due("99 of 99", y.first(), NOT);
        y.mend(7, 0, 98);
        due("98 of 99, the last", y.first(), 7);
    }

    // ---- 23

    private static void niecesSkill() {
        sentence("each goes to the told other LINE by SKILL (0 .. 12) of twelve, else from the first one to the LINE next above that other one");
        SwitchboardHeart x = townOf(3, 50);
        x.mend(1, 3, 9);
        bytes(x, 0, 1);
        // told, 0 to 1: 64 + 55 + 48; else 0 to 2: 55 + 55 + 48
        fraction(x, 0, 167, 0, 1);
        fraction(x, 1, 167, 1, 12);
        fraction(x, 2, 167, 1, 6);
        fraction(x, 6, 167, 1, 2);
        fraction(x, 8, 167, 2, 3);
        fraction(x, 11, 167, 11, 12);
        fraction(x, 12, 167, 1, 1);
        fraction(x, 0, 158, 1, 1);
        refusedOutside("nieces(0, .., 0, 0)", 0, 12, NO_LONG, skill -> x.nieces(0, skill, 0, 0));
        refusedOutside("nieces(0, .., 0, 1)", 0, 12, NO_LONG, skill -> x.nieces(0, skill, 0, 1));
    }

    private static void niecesWarmth() {
        sentence("how likely all WARM together is v or more behind the hour");
        SwitchboardHeart x = townOf(3, 50);
        x.mend(1, 3, 9);
        bytes(x, 0, 1);
        fraction(x, 3, 158, 1, 1);
        fraction(x, 3, 159, 1, 4);
        fraction(x, 3, 167, 1, 4);
        fraction(x, 3, 168, 0, 1);
        fraction(x, 3, 0, 1, 1);
        fraction(x, 3, -1, 1, 1);
        fraction(x, 3, LEAST, 1, 1);
        fraction(x, 3, MOST, 0, 1);
        SwitchboardHeart y = townOf(8, 99);
        y.mend(0, 4, 4);
        bytes(y, 0, 1, 23, 45, 67);
        fraction(y, 12, 792, 1, 1);
        fraction(y, 12, 793, 0, 1);
    }

    private static void niecesPart() {
        sentence("NIECES (part 0 above, 1 below the line). Long.MIN_VALUE: BAD, no ROW of bytes.");
        SwitchboardHeart x = townOf(2, 50);
        bytes(x, 0, 1);
        due("part 0", x.nieces(0, 4, 110, 0), 1);
        due("part 1", x.nieces(0, 4, 110, 1), 3);
        refusedOutside("nieces(0, 4, 110, ..)", 0, 1, NO_LONG, part -> x.nieces(0, 4, 110, part));
    }

    private static void niecesSixPairs() {
        sentence("NIECES: the first 6 of the hour, whatever they are.");
        SwitchboardHeart x = townOf(3, 50);
        bytes(x, 0, 99, 0, 11, -7, 8, 1);
        fraction(x, 12, 158, 1, 1);
        bytes(x, 0, 99, 0, 11, -7, 8, 127, 1);
        fraction(x, 12, 145, 0, 1);
        fraction(x, 12, 144, 1, 1);
        bytes(x, 0, 1, 1, 1, 1, 1, 1, 1);
        fraction(x, 12, 158, 1, 1);
        bytes(x, 0, 99, -1, 1);
        fraction(x, 12, 145, 0, 1);
        SwitchboardHeart y = townOf(8, 50);
        y.mend(0, 4, 4);
        bytes(y, 0, 11, 1, 33, 23, 45, 67, 99);
        fraction(y, 12, 440, 1, 1);
        bytes(y, 0, 11, 1, 33, 23, 45, 99, 67);
        fraction(y, 12, 426, 1, 1);
        fraction(y, 12, 427, 0, 1);
        sentence("(6 at most, the rest is left out)");
        int[] sixty = new int[60];
        Arrays.fill(sixty, 1);
        bytes(x, 0, sixty);
        fraction(x, 12, 158, 1, 1);
    }

    private static void niecesUnlawful() {
        sentence("(those that may not be there by then, as told, are left out)");
        SwitchboardHeart x = townOf(4, 50);
        int[] wrong = {0, 33, 4, 40, 14, 99, -2, -128};
        for (int pair : wrong) {
            bytes(x, 0, pair);
            fraction(x, 0, 193, 0, 1);
            fraction(x, 12, 193, 0, 1);
        }
        x.mend(0, 4, 0);
        bytes(x, 0, 1);
        fraction(x, 6, 193, 0, 1);
        x.mend(0, 4, 1);
        fraction(x, 6, 206, 1, 1);
        bytes(x, 0, 1, 23);
        fraction(x, 6, 207, 0, 1);
        x.mend(0, 4, 2);
        // 23 is lawful behind 01 alone; else, behind 02, it is left out; if it slips, 2 finds 0 through
        fraction(x, 6, 207, 1, 4);
        fraction(x, 6, 206, 1, 1);
    }

    private static void niecesNextAbove() {
        sentence("(0 behind the last;");
        SwitchboardHeart x = townOf(8, 50);
        x.mend(10, 3, 9);
        x.mend(7, 3, 9);
        bytes(x, 0, 17);
        fraction(x, 0, 8 * 48 + 14 + 9, 1, 1);
        fraction(x, 12, 8 * 48 + 14 + 1, 0, 1);
        bytes(x, 0, 6);
        fraction(x, 0, 8 * 48 + 14 + 9, 1, 1);
        fraction(x, 12, 8 * 48 + 14 + 1, 0, 1);
        SwitchboardHeart y = townOf(3, 50);
        y.mend(10, 3, 9);
        bytes(y, 0, 12);
        fraction(y, 3, 3 * 48 + 14 + 9, 3, 4);
    }

    private static void niecesNotThrough() {
        sentence("if that is the first one itself, or through already: it is not put through at all)");
        SwitchboardHeart x = townOf(4, 50);
        bytes(x, 0, 10);
        fraction(x, 3, 193, 1, 4);
        bytes(x, 0, 3);
        fraction(x, 3, 193, 1, 4);
        bytes(x, 0, 30);
        fraction(x, 3, 206, 1, 1);
        bytes(x, 0, 32);
        fraction(x, 3, 193, 1, 4);
        // 12, then 30: its slip finds 1 through; if 12 slips to 13, 30 is left out
        bytes(x, 0, 12, 30);
        fraction(x, 3, 207, 1, 16);
        fraction(x, 3, 206, 1, 1);
        // who is not put through at all takes no cord: 10, else nobody, then 23, else 20
        x.mend(0, 4, 1);
        bytes(x, 0, 10, 23);
        fraction(x, 3, 206, 1, 1);
        SwitchboardHeart y = townOf(2, 50);
        bytes(y, 0, 1);
        fraction(y, 0, 97, 0, 1);
        fraction(y, 12, 110, 1, 1);
    }

    private static void niecesFraction() {
        sentence("a fraction in lowest terms");
        SwitchboardHeart x = townOf(8, 50);
        x.mend(0, 4, 4);
        int[] pairs = {1, 23, 45, 67};
        for (int pair : pairs) {
            x.mend(pair, 3, 9);
        }
        bytes(x, 0, pairs);
        int all = 8 * 55 + 36;
        fraction(x, 5, all, 625, 20736);
        fraction(x, 1, all, 1, 20736);
        fraction(x, 6, all, 1, 16);
        fraction(x, 10, all, 625, 1296);
        fraction(x, 11, all, 14641, 20736);
        fraction(x, 12, all, 1, 1);
        fraction(x, 0, all, 0, 1);
        fraction(x, 5, all + 1, 0, 1);
        fraction(x, 5, 0, 1, 1);
    }

    private static void niecesHour() {
        sentence("the pairs of a DAY's first hour");
        SwitchboardHeart x = townOf(4, 50);
        tell(x, "h*9+5");
        x.putIn(1);
        x.hour();
        x.hour();
        int now = x.of(0, 0) + x.of(1, 0) + x.of(2, 0) + x.of(3, 0);
        due("WARM", now, 2 * (50 + 5 + 14) + 2 * 46);
        bytes(x, 0, 1, -1, 23);
        fraction(x, 12, now + 10 - 4, 1, 1);
        fraction(x, 12, now + 10 - 3, 0, 1);
        x.mend(0, 4, 1);
        bytes(x, 0, 23);
        fraction(x, 12, now + 10 - 4, 1, 1);
    }

    private static void niecesEmptyHour() {
        sentence("Behind the last hour there are no PLUGS.");
        SwitchboardHeart x = townOf(2, 50);
        bytes(x, 0);
        fraction(x, 6, 96, 1, 1);
        fraction(x, 6, 97, 0, 1);
        bytes(x, 0, -1, 1);
        fraction(x, 6, 96, 1, 1);
        fraction(x, 6, 97, 0, 1);
        SwitchboardHeart y = new SwitchboardHeart();
        bytes(y, 0, 1);
        fraction(y, 6, 0, 1, 1);
        fraction(y, 6, 1, 0, 1);
    }

    private static void niecesRefused() {
        sentence("Long.MIN_VALUE: BAD, no ROW of bytes.");
        refusedDays("nieces, above", 2, a -> a.x().nieces(a.shelf(), 6, 0, 0), true);
        refusedDays("nieces, below", 2, a -> a.x().nieces(a.shelf(), 6, 0, 1), true);
        refusedDays("nieces, without lines", 0, a -> a.x().nieces(a.shelf(), 6, 0, 0), true);
    }

    // ---- 24

    private static void drawnWintersAndHours() {
        sentence("DRAWN: n winters (1 .. 20) of m hours (1 .. 60) from now");
        SwitchboardHeart x = townOf(8, 50);
        for (int i = 0; i < 8; i++) {
            x.mend(i, 1, 0);
        }
        int[][] right = {{101, 1}, {102, 1}, {159, 1}, {160, 1}, {201, 2}, {1901, 19}, {1960, 19}, {2001, 20}, {2060, 20}};
        for (int[] nm : right) {
            due("nm " + nm[0], x.drawn(1, nm[0], 0), 8 * nm[1]);
        }
        int[] wrong = {0, 1, 60, 99, 100, 161, 199, 200, 2000, 2061, 2099, 2100, 2101, 2160, -1, -101, -160, -2060, LEAST, MOST,
            LEAST + 101, 1000001};
        for (int nm : wrong) {
            due("nm " + nm, x.drawn(1, nm, 0), BAD);
            due("nm " + nm + ", UNLAWFUL", x.drawn(1, nm, 1), BAD);
        }
    }

    private static void drawnNumbers() {
        sentence("how many have NEEDS at the ends, all together; how many UNLAWFUL pairs.");
        SwitchboardHeart x = townOf(8, 50);
        x.mend(0, 4, 0);
        due("no CORDS, NEEDS behind 1", x.drawn(1, 101, 0), 8);
        due("NEEDS behind 10", x.drawn(1, 110, 0), 8);
        due("NEEDS behind 11", x.drawn(1, 111, 0), 0);
        due("of three winters", x.drawn(1, 310, 0), 24);
        due("no CORDS, none UNLAWFUL", x.drawn(1, 2060, 1), 0);
        SwitchboardHeart y = new SwitchboardHeart();
        due("no lines, NEEDS", y.drawn(1, 2060, 0), 0);
        for (int cords = 0; cords <= 4; cords++) {
            y.mend(0, 4, cords);
            due("no lines, UNLAWFUL with " + cords, y.drawn(1, 101, 1), cords);
            due("no lines, UNLAWFUL with " + cords, y.drawn(1, 2060, 1), cords * 1200);
        }
        y.line(50);
        due("one line, UNLAWFUL", y.drawn(1, 2060, 1), 4800);
    }

    /** The lines that a seed draws first, by the document's words; long arithmetic, so that nothing wraps unseen. */
    private static int[] firstDrawn(int seed) {
        long z = (seed * 1103515245L + 12345L) & 0xFFFFFFFFL;
        return new int[] {(int) (z >> 6 & 0x3FFFFFF) % 8, (int) (z >> 14) % 8};
    }

    private static void drawnSeeds() {
        sentence("z = z * 1103515245 + 12345 (an int; SEED at first) ahead of each CORD each hour: the pair is the (z >>> 6) % 8-th LINE and the (z >>> 14) % 8-th");
        int[] seeds = {0, 1, -1, 2, -2, 3, 7, 12345, -12345, 1 << 16, LEAST, LEAST + 1, MOST, MOST - 1, 99991, -777777};
        for (int seed : seeds) {
            SwitchboardHeart x = townOf(8, 50);
            x.mend(0, 4, 1);
            int[] two = firstDrawn(seed);
            boolean lawful = two[0] != two[1];
            due("UNLAWFUL of seed " + seed, x.drawn(seed, 101, 1), lawful ? 0 : 1);
            for (int one = 0; one < 8; one++) {
                x.mend(one, 1, 99);
            }
            for (int one = 0; one < 8; one++) {
                x.mend(one, 1, 55);
                boolean through = lawful && (one == two[0] || one == two[1]);
                due("through is " + one + " of seed " + seed, x.drawn(seed, 101, 0), through ? 1 : 0);
                x.mend(one, 1, 99);
            }
        }
    }

    private static void drawnUnlawful() {
        sentence("(it may not be there: left out)");
        // seed 1 draws 2 and 1, then 3 and 2
        SwitchboardHeart x = townOf(3, 50);
        x.mend(0, 4, 1);
        due("2 and 1 are there", x.drawn(1, 101, 1), 0);
        x.mend(0, 4, 2);
        due("3 is not", x.drawn(1, 101, 1), 1);
        x.line(50);
        due("3 is, but 2 is through", x.drawn(1, 101, 1), 1);
        SwitchboardHeart y = townOf(2, 50);
        y.mend(0, 4, 2);
        due("2 is not, nor 3", y.drawn(1, 101, 1), 2);
        SwitchboardHeart z = townOf(4, 50);
        z.mend(0, 4, 1);
        due("the same in the first hour of two, then 3 and 2", z.drawn(1, 102, 1), 0);
        due("in the second winter 3 and 2", z.drawn(1, 201, 1), 0);
        for (int i = 0; i < 4; i++) {
            z.mend(i, 1, 55);
        }
        due("1 and 2, then 2 and 3", z.drawn(1, 201, 0), 4);
        due("2 had both, 1 cooled again, and 3 is at 53", z.drawn(1, 102, 0), 1);
    }

    private static void drawnFromNow() {
        sentence("(no PLUGS are in as they begin, whatever is in)");
        SwitchboardHeart x = townOf(3, 50);
        x.mend(0, 4, 1);
        tell(x, "h*9");
        x.putIn(12);
        x.hour();
        x.hour();
        due("WARM", x.of(1, 0), 59);
        x.mend(1, 1, 59);
        x.mend(2, 1, 60);
        x.mend(0, 1, 99);
        due("the cord is free", x.drawn(1, 101, 1), 0);
        due("h is 0", x.drawn(1, 101, 0), 1);
        due("WARM as it was", x.of(1, 0), 59);
        due("in as it was", x.of(1, 7), 2);
    }

    private static void drawnRefused() {
        sentence("DRAWN (nm: 100 n and m): have NEEDS (what 0), UNLAWFUL (1). BAD.");
        SwitchboardHeart x = townOf(2, 50);
        refusedOutside("drawn(1, 101, ..)", 0, 1, BAD, what -> x.drawn(1, 101, what));
        refusedOutside("drawn(1, 0, ..)", 0, 1, BAD, what -> x.drawn(1, 0, what));
    }
}
