import java.util.Arrays;

/** The edges of an hour and of a day in thought: Terms 1 and 2, promises 9 to 13. */
public final class EdgesOfHoursTest extends Board {
    private EdgesOfHoursTest() {
    }

    public static void main(String[] args) {
        warmStaysWithin();
        warmStaysWithinByTheLaw();
        warmStaysWithinOnPartyLines();
        onAPartyLine();
        asTheHourBegins();
        lastHour();
        emptyRow();
        sixtyBytes();
        noSuchLines();
        throughAlready();
        noCordLeft();
        leftOut();
        laterHours();
        laterOfWhom();
        hasNeeds();
        unlawfulHours();
        throughHours();
        waits();
        noPlugsAsItBegins();
        refusedDaysOfAll();
        newsHours();
        newsByWire();
        newsByPartyLine();
        newsAsTheHourBegins();
        newsOfOneself();
        newsFirstHour();
        newsRefused();
        Due.end();
    }

    private static int[] filled(int size, int v) {
        int[] row = new int[size];
        Arrays.fill(row, v);
        return row;
    }

    /** WARM behind an hour, in thought with a row on shelf 0 and in deed with the same pairs put in. */
    private static void behindAnHour(SwitchboardHeart x, int[] pairs, int... want) {
        bytes(x, 0, pairs);
        for (int one = 0; one < want.length; one++) {
            due("in thought, line " + one, x.later(0, 1, one), want[one]);
        }
        for (int pair : pairs) {
            x.putIn(pair);
        }
        x.hour();
        for (int one = 0; one < want.length; one++) {
            due("in deed, line " + one, x.of(one, 0), want[one]);
        }
    }

    private static void warmStaysWithin() {
        sentence("all others are colder by COLD (WARM 0 .. 99 always;");
        behindAnHour(town(0, 1, 2, 3, 99), new int[0], 0, 0, 0, 1, 97);
        SwitchboardHeart x = town(0, 8, 9, 10, 99);
        x.mend(0, 5, 9);
        behindAnHour(x, new int[0], 0, 0, 0, 1, 90);
        SwitchboardHeart y = town(0, 1, 99);
        y.mend(0, 5, 0);
        behindAnHour(y, new int[0], 0, 1, 99);
    }

    private static void warmStaysWithinByTheLaw() {
        sentence("WARM 0 .. 99 always");
        SwitchboardHeart x = town(78, 79, 80, 99);
        tell(x, "20");
        behindAnHour(x, new int[] {1, 23}, 98, 99, 99, 99);
        SwitchboardHeart y = town(19, 20, 21, 0);
        tell(y, "-20");
        behindAnHour(y, new int[] {1, 23}, 0, 0, 1, 0);
        SwitchboardHeart z = town(94, 95, 99);
        z.mend(10, 3, -9);
        behindAnHour(z, new int[] {1}, 99, 91, 97);
    }

    private static void warmStaysWithinOnPartyLines() {
        sentence("WARM 0 .. 99 always");
        SwitchboardHeart x = town(50, 50, 97, 98, 99, 0);
        for (int one : new int[] {0, 2, 3, 4, 5}) {
            x.mend(one, 2, 1);
        }
        behindAnHour(x, new int[] {1}, 55, 55, 98, 99, 99, 1);
    }

    private static void onAPartyLine() {
        sentence("who is not, but is on a PARTY line (not 0) of which one is put through, is warmer by 1");
        SwitchboardHeart x = town(50, 50, 50, 50, 50, 50, 50);
        x.mend(0, 2, 1);
        x.mend(1, 2, 1);
        x.mend(2, 2, 1);
        x.mend(4, 2, 1);
        x.mend(5, 2, 2);
        x.mend(6, 2, 2);
        // 0, 1, 2 are through and on line 1: by the law alone; 4 by 1 alone; 5 and 6: none of line 2 is through
        behindAnHour(x, new int[] {1, 23}, 55, 55, 55, 55, 51, 48, 48);
    }

    private static void asTheHourBegins() {
        sentence("all as they are as the hour begins");
        SwitchboardHeart x = town(3, 8);
        tell(x, "o");
        behindAnHour(x, new int[] {1}, 11, 11);
        SwitchboardHeart y = town(8, 3);
        tell(y, "o-w");
        behindAnHour(y, new int[] {10}, 3, 8);
    }

    private static void lastHour() {
        sentence("each hour ended by -1 (the last one by the end as well; a row that ends with -1 has no more hour behind it; an empty one has none)");
        int[][] rows = {{1}, {1, -1}, {1, -1, -1}, {1, 255}};
        for (int[] row : rows) {
            SwitchboardHeart x = town(50, 50, 50);
            bytes(x, 0, row);
            due("behind the first", x.later(0, 1, 0), 55);
            due("behind the second", x.later(0, 2, 0), 53);
            due("behind the third", x.later(0, 3, 0), 51);
            due("through behind the first", x.through(0, 1, 1), 1);
            due("through behind the second", x.through(0, 2, 1), 0);
            due("WAITS", x.idle(0, 60, 0), 59);
            due("UNLAWFUL", x.have(0, 60, 1), 0);
        }
        SwitchboardHeart y = town(50, 50);
        bytes(y, 0, -1, 1);
        due("an hour without pairs, then one", y.later(0, 1, 0), 48);
        due("an hour without pairs, then one", y.later(0, 2, 0), 53);
        bytes(y, 0, -1, -1, 1, -1);
        due("two hours without pairs, then one", y.later(0, 2, 0), 46);
        due("two hours without pairs, then one", y.later(0, 3, 0), 51);
    }

    private static void emptyRow() {
        sentence("Behind the last hour there are no PLUGS.");
        SwitchboardHeart x = town(99, 99);
        bytes(x, 0);
        due("now", x.later(0, 0, 0), 99);
        due("behind one", x.later(0, 1, 0), 97);
        due("behind 49", x.later(0, 49, 0), 1);
        due("behind 50", x.later(0, 50, 0), 0);
        due("behind 60", x.later(0, 60, 0), 0);
        due("UNLAWFUL", x.have(0, 60, 1), 0);
        due("through", x.through(0, 60, 1), 0);
        due("WAITS", x.idle(0, 60, 0), 60);
        due("NEWS", x.news(0, 60, 0, -1), 1);
        bytes(x, 0, -1);
        due("behind one", x.later(0, 1, 0), 97);
        due("UNLAWFUL", x.have(0, 60, 1), 0);
    }

    private static void sixtyBytes() {
        sentence("hour by hour the pairs (10 times the one and the other)");
        SwitchboardHeart x = town(50, 50, 50);
        int[] row = filled(60, -1);
        row[59] = 12;
        bytes(x, 0, row);
        due("the 60th hour has the pair", x.through(0, 60, 12), 1);
        due("the 59th has none", x.through(0, 59, 12), 0);
        due("WAITS", x.idle(0, 60, 1), 59);
        due("WARM", x.later(0, 60, 1), 5);
        bytes(x, 0, filled(60, 12));
        due("60 in one hour", x.have(0, 1, 1), 59);
        due("and one lawful", x.through(0, 1, 12), 1);
        for (int i = 0; i < 60; i += 2) {
            row[i] = 12;
            row[i + 1] = -1;
        }
        bytes(x, 0, row);
        due("30 hours", x.through(0, 30, 12), 30);
        due("not 31", x.through(0, 31, 12), 0);
    }

    private static void unlawful(SwitchboardHeart x, int want, int... row) {
        bytes(x, 0, row);
        due("UNLAWFUL of " + Arrays.toString(row), x.have(0, 1, 1), want);
    }

    private static void noSuchLines() {
        sentence("A pair that may not be there (no such LINES,");
        SwitchboardHeart x = townOf(3, 50);
        int[] none = {3, 30, 13, 31, 33, 8, 80, 9, 90, 99, 100, 127, -2, -9, -10, -11, -12, -128};
        for (int pair : none) {
            unlawful(x, 1, pair);
            due("nobody is through", x.idle(0, 1, 0) + x.idle(0, 1, 1) + x.idle(0, 1, 2), 3);
        }
        int[] there = {1, 10, 2, 20, 12, 21};
        for (int pair : there) {
            unlawful(x, 0, pair);
            due("two are through", x.idle(0, 1, 0) + x.idle(0, 1, 1) + x.idle(0, 1, 2), 1);
        }
        sentence("A pair of one LINE with itself is UNLAWFUL.");
        unlawful(x, 1, 0);
        unlawful(x, 1, 11);
        unlawful(x, 3, 0, 11, 22);
        SwitchboardHeart y = townOf(8, 50);
        unlawful(y, 1, 77);
        unlawful(y, 0, 76);
        unlawful(y, 1, 78);
        unlawful(y, 1, 87);
        SwitchboardHeart z = new SwitchboardHeart();
        unlawful(z, 2, 0, 1);
    }

    private static void throughAlready() {
        sentence("one of them through already");
        SwitchboardHeart x = townOf(4, 50);
        x.mend(0, 4, 4);
        unlawful(x, 1, 12, 12);
        unlawful(x, 1, 12, 21);
        unlawful(x, 1, 12, 1);
        unlawful(x, 1, 12, 10);
        unlawful(x, 1, 12, 23);
        unlawful(x, 1, 12, 32);
        unlawful(x, 0, 12, 30);
        unlawful(x, 0, 12, 3);
        unlawful(x, 0, 12, -1, 12);
    }

    private static void noCordLeft() {
        sentence("no CORD left) is left out: UNLAWFUL.");
        SwitchboardHeart x = townOf(8, 50);
        for (int cords = 0; cords <= 4; cords++) {
            x.mend(0, 4, cords);
            unlawful(x, 4 - cords, 1, 23, 45, 67);
            due("the last one that is through", x.idle(0, 1, 7), cords == 4 ? 0 : 1);
        }
        x.mend(0, 4, 2);
        unlawful(x, 1, 1, 23, 45, -1, 1, 23, 67);
        due("each hour has all cords", x.have(0, 2, 1), 2);
    }

    private static void leftOut() {
        sentence("is left out: UNLAWFUL.");
        SwitchboardHeart x = townOf(5, 50);
        unlawful(x, 4, 11, 99, 5, -3, 1, 23);
        due("it takes no CORD", x.through(0, 1, 23), 1);
        unlawful(x, 1, 1, 12, 23);
        due("nor a LINE", x.through(0, 1, 23), 1);
    }

    private static void laterHours() {
        sentence("IN THOUGHT, from now: behind n hours (0 .. 60) of a DAY: WARM of one");
        SwitchboardHeart x = town(90, 50);
        x.mend(0, 5, 1);
        bytes(x, 0, 1);
        due("n 0", x.later(0, 0, 0), 90);
        due("n 1", x.later(0, 1, 0), 95);
        due("n 59", x.later(0, 59, 0), 37);
        due("n 60", x.later(0, 60, 0), 36);
        refusedOutside("later(0, .., 0)", 0, 60, BAD, n -> x.later(0, n, 0));
        refusedOutside("have(0, .., 0)", 0, 60, BAD, n -> x.have(0, n, 0));
        refusedOutside("have(0, .., 1)", 0, 60, BAD, n -> x.have(0, n, 1));
        refusedOutside("through(0, .., 1)", 0, 60, BAD, n -> x.through(0, n, 1));
        refusedOutside("idle(0, .., 0)", 0, 60, BAD, n -> x.idle(0, n, 0));
        due("now, still", x.of(0, 0), 90);
    }

    private static void laterOfWhom() {
        sentence("WARM of one behind n hours.");
        SwitchboardHeart x = town(50, 51, 52, 53, 54, 55, 56, 57);
        bytes(x, 0);
        due("of the first", x.later(0, 0, 0), 50);
        due("of the last", x.later(0, 0, 7), 57);
        refusedLines("later(0, 0, ..)", 8, BAD, one -> x.later(0, 0, one));
        refusedLines("idle(0, 0, ..)", 8, BAD, one -> x.idle(0, 0, one));
        SwitchboardHeart y = new SwitchboardHeart();
        bytes(y, 0);
        due("without lines", y.later(0, 0, 0), BAD);
        due("without lines", y.idle(0, 0, 0), BAD);
        due("without lines", y.through(0, 0, 1), BAD);
        due("without lines", y.news(0, 0, 0, -1), BAD);
        due("without lines, who has NEEDS", y.have(0, 60, 0), 0);
        due("without lines, UNLAWFUL", y.have(0, 60, 1), 0);
    }

    private static void hasNeeds() {
        sentence("who (bits) has WARM no less than NEEDS");
        SwitchboardHeart x = town(29, 30, 31, 0, 99, 98, 0, 99);
        x.mend(3, 1, 0);
        x.mend(4, 1, 99);
        x.mend(5, 1, 99);
        x.mend(6, 1, 1);
        bytes(x, 0);
        due("now", x.have(0, 0, 0), 2 + 4 + 8 + 16 + 128);
        due("behind one", x.have(0, 1, 0), 8 + 128);
        SwitchboardHeart y = townOf(8, 30);
        bytes(y, 0);
        due("all eight", y.have(0, 0, 0), 255);
        due("none", y.have(0, 1, 0), 0);
        refusedOutside("have(0, 0, ..)", 0, 1, BAD, what -> y.have(0, 0, what));
        y.mend(7, 1, 28);
        due("the last", y.have(0, 1, 0), 128);
        due("hour()", y.hour(), 128);
    }

    private static void unlawfulHours() {
        sentence("how many UNLAWFUL pairs there were in these hours");
        SwitchboardHeart x = townOf(2, 50);
        bytes(x, 0, 0, -1, 11, 99, -1, 1, -1, 7);
        due("n 0", x.have(0, 0, 1), 0);
        due("n 1", x.have(0, 1, 1), 1);
        due("n 2", x.have(0, 2, 1), 3);
        due("n 3", x.have(0, 3, 1), 3);
        due("n 4", x.have(0, 4, 1), 4);
        due("n 5", x.have(0, 5, 1), 4);
        due("n 60", x.have(0, 60, 1), 4);
        bytes(x, 0, filled(60, 0));
        due("60 in one hour", x.have(0, 1, 1), 60);
    }

    private static void throughHours() {
        sentence("for how many hours on end two are through then (0: they are not)");
        SwitchboardHeart x = townOf(8, 50);
        bytes(x, 0, 76, -1, 67, 1, -1, -1, 76, -1, 75);
        due("n 0", x.through(0, 0, 76), 0);
        due("n 1", x.through(0, 1, 76), 1);
        due("n 2", x.through(0, 2, 76), 2);
        due("n 2, told the other way", x.through(0, 2, 67), 2);
        due("n 3", x.through(0, 3, 76), 0);
        due("n 4, begun again", x.through(0, 4, 76), 1);
        due("n 5", x.through(0, 5, 76), 0);
        due("n 5, another", x.through(0, 5, 75), 1);
        due("n 60", x.through(0, 60, 75), 0);
        refusedPairs("through(0, 1, ..)", 8, BAD, ab -> x.through(0, 1, ab));
    }

    private static void waits() {
        sentence("how many hours one was not put through in (its WAITS)");
        SwitchboardHeart x = townOf(8, 50);
        for (int i = 0; i < 8; i++) {
            x.mend(i, 2, 1);
        }
        bytes(x, 0, 70, -1, 17, -1, -1, 7);
        due("n 0", x.idle(0, 0, 7), 0);
        due("n 1", x.idle(0, 1, 7), 0);
        due("n 2", x.idle(0, 2, 7), 0);
        due("n 3", x.idle(0, 3, 7), 1);
        due("n 4", x.idle(0, 4, 7), 1);
        due("n 60", x.idle(0, 60, 7), 57);
        due("one on the party line alone waits", x.idle(0, 60, 2), 60);
        due("n 1 of 1", x.idle(0, 1, 1), 1);
        due("n 2 of 1", x.idle(0, 2, 1), 1);
    }

    private static void noPlugsAsItBegins() {
        sentence("a DAY in thought (on a SHELF; BAD, -11, -12 (no ROW of bytes)); no PLUGS are in as it begins, whatever is in.");
        SwitchboardHeart x = town(50, 50, 50, 50);
        tell(x, "h");
        x.putIn(1);
        x.hour();
        x.hour();
        bytes(x, 0, 1);
        due("h is 0", x.later(0, 1, 0), 51);
        due("through for one hour", x.through(0, 1, 1), 1);
        due("through for none", x.through(0, 0, 1), 0);
        x.mend(0, 4, 1);
        bytes(x, 0, 23);
        due("the cord is free", x.have(0, 1, 1), 0);
        due("the cord is free", x.through(0, 1, 23), 1);
        due("the lines are free", x.idle(0, 1, 0), 1);
        bytes(x, 0, 2);
        due("the lines are free", x.through(0, 1, 2), 1);
        due("NEWS", x.news(0, 1, 0, -1), 1 + 4);
        bytes(x, 0);
        due("NEWS without pairs", x.news(0, 60, 0, -1), 1);
    }

    private static void refusedDaysOfAll() {
        sentence("(on a SHELF; BAD, -11, -12 (no ROW of bytes))");
        refusedDays("later", 2, a -> a.x().later(a.shelf(), 0, 0), false);
        refusedDays("have, NEEDS", 2, a -> a.x().have(a.shelf(), 0, 0), false);
        refusedDays("have, UNLAWFUL", 2, a -> a.x().have(a.shelf(), 0, 1), false);
        refusedDays("through", 2, a -> a.x().through(a.shelf(), 0, 1), false);
        refusedDays("idle", 2, a -> a.x().idle(a.shelf(), 0, 0), false);
        refusedDays("news, who", 2, a -> a.x().news(a.shelf(), 0, 0, -1), false);
        refusedDays("news, when", 2, a -> a.x().news(a.shelf(), 0, 0, 1), false);
        refusedDays("news of oneself", 2, a -> a.x().news(a.shelf(), 0, 0, 0), false);
    }

    private static void newsHours() {
        sentence("who (bits) knows it behind n hours");
        SwitchboardHeart x = townOf(8, 50);
        int[] row = filled(60, -1);
        row[0] = 76;
        row[59] = 70;
        bytes(x, 0, row);
        due("n 0", x.news(0, 0, 7, -1), 128);
        due("n 1", x.news(0, 1, 7, -1), 128 + 64);
        due("n 58", x.news(0, 58, 7, -1), 128 + 64);
        due("n 59, which is the last hour of this row", x.news(0, 59, 7, -1), 128 + 64 + 1);
        due("n 60", x.news(0, 60, 7, -1), 128 + 64 + 1);
        refusedOutside("news(0, .., 7, -1)", 0, 60, BAD, n -> x.news(0, n, 7, -1));
        due("of another one", x.news(0, 60, 3, -1), 8);
    }

    private static void newsByWire() {
        sentence("in each hour whoever is through to one who knows it knows it, too");
        SwitchboardHeart x = townOf(6, 50);
        bytes(x, 0, 1, 23, -1, 30);
        due("the other one", x.news(0, 1, 0, -1), 1 + 2);
        due("the one", x.news(0, 1, 1, -1), 1 + 2);
        due("the next hour", x.news(0, 2, 0, -1), 1 + 2 + 8);
        due("both knew it", x.news(0, 2, 2, -1), 4 + 8 + 1);
        bytes(x, 0, 1, 12, -1, 44);
        due("by an UNLAWFUL pair nobody", x.news(0, 2, 2, -1), 4);
        due("by an UNLAWFUL pair nobody", x.news(0, 2, 4, -1), 16);
    }

    private static void newsByPartyLine() {
        sentence("all who are on a PARTY line of one who is through to one who knows it or knows it and is through");
        SwitchboardHeart x = townOf(7, 50);
        x.mend(0, 2, 1);
        x.mend(4, 2, 1);
        x.mend(1, 2, 3);
        x.mend(5, 2, 3);
        x.mend(6, 2, 2);
        bytes(x, 0, 1);
        due("both party lines", x.news(0, 1, 0, -1), 1 + 2 + 16 + 32);
        due("both party lines", x.news(0, 1, 1, -1), 1 + 2 + 16 + 32);
        due("who knows it, but is not through", x.news(0, 1, 4, -1), 16);
        due("by no PLUGS", x.news(0, 0, 0, -1), 1);
        bytes(x, 0, 42);
        due("the first line hears it", x.news(0, 1, 4, -1), 1 + 4 + 16);
        bytes(x, 0, 23);
        due("pairs that do not know it", x.news(0, 1, 0, -1), 1);
        bytes(x, 0, 23, -1, 60);
        due("party line 0 is none", x.news(0, 1, 2, -1), 4 + 8);
    }

    private static void newsAsTheHourBegins() {
        sentence("NEWS: hours count from 0, by who knows it as the hour begins");
        SwitchboardHeart x = townOf(6, 50);
        x.mend(1, 2, 1);
        x.mend(2, 2, 1);
        bytes(x, 0, 1, 23, -1, 23);
        due("2 hears it in this hour, 3 not yet", x.news(0, 1, 0, -1), 1 + 2 + 4);
        due("3 in the next", x.news(0, 2, 0, -1), 1 + 2 + 4 + 8);
        due("hour of 2", x.news(0, 0, 0, 2), 0);
        due("hour of 3", x.news(0, 0, 0, 3), 1);
        bytes(x, 0, 23, 1);
        due("the other way round as well", x.news(0, 1, 0, -1), 1 + 2 + 4);
    }

    private static void newsOfOneself() {
        sentence("another one may be oneself");
        SwitchboardHeart x = townOf(8, 50);
        bytes(x, 0);
        due("0 of itself", x.news(0, 0, 0, 0), 0);
        due("7 of itself", x.news(0, 60, 7, 7), 0);
        bytes(x, 0, -1, 70);
        due("7 of itself", x.news(0, 60, 7, 7), 0);
        due("0 by 7", x.news(0, 60, 7, 0), 1);
    }

    private static void newsFirstHour() {
        sentence("the first hour (0 on) behind which one knows it, by 60 (NOT).");
        SwitchboardHeart x = townOf(3, 50);
        int[] row = filled(60, -1);
        row[59] = 1;
        bytes(x, 0, row);
        due("the last hour that a row can have", x.news(0, 0, 0, 1), 59);
        due("never", x.news(0, 0, 0, 2), NOT);
        bytes(x, 0, 1, -1, 1, 12);
        due("the first of two", x.news(0, 60, 0, 1), 0);
        due("not by an UNLAWFUL pair", x.news(0, 60, 0, 2), NOT);
        bytes(x, 0);
        due("without pairs", x.news(0, 60, 0, 2), NOT);
        sentence("n does not matter, but must be as it may be");
        bytes(x, 0, -1, -1, 1);
        due("n 0", x.news(0, 0, 0, 1), 2);
        due("n 1", x.news(0, 1, 0, 1), 2);
        due("n 60", x.news(0, 60, 0, 1), 2);
        refusedOutside("news(0, .., 0, 1)", 0, 60, BAD, n -> x.news(0, n, 0, 1));
        refusedOutside("news(0, .., 0, 0)", 0, 60, BAD, n -> x.news(0, n, 0, 0));
    }

    private static void newsRefused() {
        sentence("NEWS: who knows it (other -1), the first hour behind which another one does");
        SwitchboardHeart x = townOf(8, 50);
        bytes(x, 0, 7);
        due("other -1", x.news(0, 1, 0, -1), 129);
        due("other 0", x.news(0, 1, 7, 0), 0);
        due("other 7", x.news(0, 1, 0, 7), 0);
        refusedOutside("news(0, 1, 0, ..)", -1, 7, BAD, other -> x.news(0, 1, 0, other));
        refusedLines("news(0, 1, .., -1)", 8, BAD, one -> x.news(0, 1, one, -1));
        refusedLines("news(0, 1, .., 0)", 8, BAD, one -> x.news(0, 1, one, 0));
    }
}
