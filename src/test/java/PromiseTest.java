/** Each promise by its number: ordinary inputs, the edges that the document names, wrong inputs. */
public final class PromiseTest extends Board {
    private PromiseTest() {
    }

    public static void main(String[] args) {
        lines();
        texts();
        days();
        ways();
        readBack();
        deeds();
        changes();
        acts();
        shelves();
        eightLines();
        Due.end();
    }

    // ---- 1 to 5

    private static void lines() {
        promise1();
        promise2();
        promise3();
        promise4();
        promise5();
    }

    private static void promise1() {
        SwitchboardHeart x = new SwitchboardHeart();
        for (int what = 0; what <= 5; what++) {
            due("1 count", x.count(what), 0);
        }
        for (int what = 0; what <= 4; what++) {
            due("1 led", x.led(what), 0);
        }
        due("1 cords", x.of(0, 4), 2);
        due("1 cold", x.of(0, 5), 2);
        for (int shelf = 0; shelf < 6; shelf++) {
            due("1 shelf holds nothing", x.taken(shelf, 0), -11);
        }
        due("1 no image", x.back(), STATE);
        SwitchboardHeart y = new SwitchboardHeart();
        x.line(5);
        x.mend(0, 4, 4);
        due("1 objects share nothing", y.count(0), 0);
        due("1 objects share no cords", y.of(0, 4), 2);
    }

    private static void promise2() {
        SwitchboardHeart x = new SwitchboardHeart();
        due("2 below", x.line(-1), BAD);
        due("2 above", x.line(100), BAD);
        due("2 wild", x.line(LEAST), BAD);
        for (int i = 0; i < 8; i++) {
            due("2 number", x.line(i == 0 ? 0 : i == 1 ? 99 : 40 + i), i);
        }
        due("2 full", x.line(1), FULL);
        due("2 bad ahead of full", x.line(100), BAD);
        due("2 warm", x.of(0, 0), 0);
        due("2 warm", x.of(1, 0), 99);
        due("2 needs at first", x.of(7, 1), 30);
        due("2 party at first", x.of(7, 2), 0);
        due("2 likes at first", x.of(76, 3), 0);
        due("2 none behind", x.of(8, 0), VOID);
    }

    private static void promise3() {
        SwitchboardHeart x = new SwitchboardHeart();
        due("3 a row that is missing", x.lines(0, 0, 1), 0);
        due("3 missing, wild place", x.lines(0, -1, 8), 0);
        bytes(x, 0, 7, 10, 20, 1, 30, 40, 2, 50, 60);
        due("3 no such shelf", x.lines(6, 0, 1), BAD);
        due("3 no such shelf", x.lines(-1, 0, 1), BAD);
        due("3 n 0", x.lines(0, 0, 0), BAD);
        due("3 n 9", x.lines(0, 0, 9), BAD);
        due("3 place below 0", x.lines(0, -1, 1), 0);
        due("3 place behind", x.lines(0, 9, 1), 0);
        due("3 place far behind", x.lines(0, MOST, 1), 0);
        due("3 place far behind", x.lines(0, MOST - 2, 8), 0);
        due("3 it ends within a three", x.lines(0, 1, 8), 2);
        due("3 count", x.count(0), 2);
        due("3 warm", x.of(1, 0), 30);
        due("3 needs", x.of(1, 1), 40);
        due("3 party", x.of(1, 2), 2);
        due("3 no more than told", x.lines(0, 1, 1), 1);
        x.row(1, 1, 9);
        due("3 shorts", x.lines(1, 0, 1), -12);
        due("3 -12 ahead of a place below 0", x.lines(1, -1, 1), -12);
        due("3 bad ahead of -12", x.lines(1, 0, 9), BAD);
        x.body(0);
        x.keep(2, 0);
        due("3 a body", x.lines(2, 0, 1), -12);
        bytes(x, 3, 100, 0, 0, 99, 99, 3, 0, -1, 0, 0, 0, 4);
        due("3 warm 100", x.lines(3, 0, 4), 0);
        due("3 needs -1 ends it", x.lines(3, 3, 3), 1);
        due("3 party 4", x.lines(3, 9, 1), 0);
        due("3 count", x.count(0), 4);
        x.row(4, 0, 60);
        due("3 until full", x.lines(4, 57, 1), 1);
        due("3 ends within three at 58", x.lines(4, 58, 1), 0);
        due("3 until full", x.lines(4, 0, 8), 3);
        due("3 full", x.lines(4, 0, 8), 0);
        due("3 no change", x.count(3), 0);
    }

    private static void promise4() {
        SwitchboardHeart x = town(20, 30);
        due("4 warm", x.mend(0, 0, 99), 20);
        due("4 warm", x.mend(0, 0, 0), 99);
        due("4 warm 100", x.mend(0, 0, 100), VOID);
        due("4 warm -1", x.mend(0, 0, -1), VOID);
        due("4 needs", x.mend(1, 1, 99), 30);
        due("4 needs", x.mend(1, 1, 0), 99);
        due("4 needs 100", x.mend(1, 1, 100), VOID);
        due("4 needs -1", x.mend(1, 1, -1), VOID);
        due("4 party", x.mend(1, 2, 3), 0);
        due("4 party 4", x.mend(1, 2, 4), VOID);
        due("4 party -1", x.mend(1, 2, -1), VOID);
        due("4 likes", x.mend(1, 3, 9), 0);
        due("4 likes", x.mend(10, 3, -9), 0);
        due("4 likes 10", x.mend(1, 3, 10), VOID);
        due("4 likes -10", x.mend(1, 3, -10), VOID);
        due("4 likes of oneself", x.mend(11, 3, 1), VOID);
        due("4 likes of none", x.mend(12, 3, 1), VOID);
        due("4 likes below", x.mend(-1, 3, 1), VOID);
        due("4 cords", x.mend(0, 4, 4), 2);
        due("4 cords 5", x.mend(0, 4, 5), VOID);
        due("4 cords -1", x.mend(0, 4, -1), VOID);
        due("4 cords of 1", x.mend(1, 4, 1), VOID);
        due("4 cold", x.mend(0, 5, 9), 2);
        due("4 cold 10", x.mend(0, 5, 10), VOID);
        due("4 cold -1", x.mend(0, 5, -1), VOID);
        due("4 cold of 1", x.mend(1, 5, 1), VOID);
        due("4 no such line", x.mend(2, 0, 1), VOID);
        due("4 what 6", x.mend(0, 6, 1), VOID);
        due("4 what -1", x.mend(0, -1, 1), VOID);
        due("4 likes are one's own", x.of(1, 3), 9);
        due("4 likes are one's own", x.of(10, 3), -9);
        due("4 changes", x.count(3), 9);
        due("4 the same", x.mend(0, 5, 9), 9);
        due("4 the same is no change", x.count(3), 9);
        x.putIn(1);
        x.mend(0, 4, 0);
        due("4 what is in stays in", x.count(1), 1);
    }

    private static void promise5() {
        SwitchboardHeart x = town(20, 30, 40);
        x.mend(12, 3, 5);
        due("5 warm", x.of(1, 0), 30);
        due("5 needs", x.of(1, 1), 30);
        due("5 party", x.of(1, 2), 0);
        due("5 likes", x.of(12, 3), 5);
        due("5 likes back", x.of(21, 3), 0);
        due("5 likes of oneself", x.of(11, 3), VOID);
        due("5 cords of 1", x.of(1, 4), VOID);
        due("5 cold of 1", x.of(1, 5), VOID);
        due("5 through to nobody", x.of(1, 6), NOT);
        due("5 hours of nobody", x.of(1, 7), 0);
        x.putIn(21);
        x.hour();
        x.hour();
        due("5 through to", x.of(1, 6), 2);
        due("5 through to", x.of(2, 6), 1);
        due("5 hours", x.of(2, 7), 2);
        due("5 hours of another", x.of(0, 7), 0);
        due("5 no such line", x.of(3, 6), VOID);
        due("5 no such line", x.of(-1, 7), VOID);
        due("5 what 8", x.of(0, 8), VOID);
        due("5 what -1", x.of(0, -1), VOID);
    }

    // ---- 6 to 8

    private static void texts() {
        promise6();
        promise7();
        promise7Faults();
        promise8();
        promise8Names();
    }

    private static void promise6() {
        SwitchboardHeart x = new SwitchboardHeart();
        due("6 below", x.feed(-1), BAD);
        due("6 above", x.feed(256), BAD);
        for (int i = 1; i <= 120; i++) {
            due("6 feed", x.feed(i == 1 ? 0 : i == 2 ? 255 : 'l'), i);
        }
        due("6 full", x.feed('l'), FULL);
        due("6 bad ahead of full", x.feed(256), BAD);
        due("6 count", x.count(2), 120);
        due("6 the first byte is its fault", x.law(), -100);
        due("6 empty then", x.count(2), 0);
        due("6 it takes more then", x.feed('l'), 1);
    }

    private static void promise7() {
        SwitchboardHeart x = town(10, 20);
        due("7 law", tell(x, "7"), 1);
        due("7 tape is empty", x.count(2), 0);
        due("7 counts", x.warmer(1, 0), 7);
        due("7 fault", tell(x, "8x"), -101);
        due("7 the law as before", x.warmer(1, 0), 7);
        due("7 tape is empty behind a fault", x.count(2), 0);
        due("7 another law", tell(x, "9"), 1);
        due("7 counts", x.warmer(1, 0), 9);
        due("7 no change", x.count(3), 0);
        StringBuilder longest = new StringBuilder("1");
        for (int i = 0; i < 59; i++) {
            longest.append("+1");
        }
        due("7 119 bytes", tell(x, longest.toString()), 1);
        due("7 held to 20", x.warmer(1, 0), 20);
        due("7 ends at 120", tell(x, longest + "+"), -220);
        due("7 held to 20 still", x.warmer(1, 0), 20);
    }

    private static void promise7Faults() {
        SwitchboardHeart x = new SwitchboardHeart();
        String[] right = {"l", "0", "9999", "0000", "l?w", "l?w;o", "l;w;o", "l|w&o<h=0".substring(0, 7), "!l", "-l",
            "--l", "!-!l", "2--3", "2-!3", "(l)", "((((((l))))))", "!!!!!!l", "-(-(-(l)))", "(!(!(!l)))", "!!!!!!l+!!!!!!w",
            "(l<w)<o", "l<w&o>h|c=p", "l<w?l>w", "l*w/o%h", "l?((((((w))))))", "l;((((((w))))))", "(l|w)?(o&h)", "((((((l))))))*((((((w))))))"};
        for (String text : right) {
            due("7 right: " + text, tell(x, text), 1);
        }
        String[] wrong = {"@", "0", "+", "0", "l+", "2", "l w", "1", "12345", "4", "l+12345", "6", "l?", "2", "l?w?o", "3",
            ";", "0", "l;", "2", "l;;w", "2", "?l", "0", "l<w<o", "3", "l<w=o", "3", "l=w&o=h=c", "7", "()", "1", "(l", "2",
            "(l))", "3", "l?(((((((w", "8", "l;(((((((w", "8", "l)", "1", "(l?w)", "2", "(l;w)", "2", "!!!!!!!l", "6", "-------l", "6", "(((((((l)))))))", "6",
            "!(!(!(!l)))", "6", "-(!(-(l)))+(((((((l)))))))", "17", "lw", "1", "l2", "1", "2l", "1", "L", "0", "l!", "1", "l!=w", "1",
            "l<", "2", "!", "1", "((", "2", "l&&w", "2", "l||w", "2", "l==w", "2", "l<=w", "2", "l**w", "2", "l+*w", "2"};
        for (int i = 0; i < wrong.length; i += 2) {
            due("7 fault of " + wrong[i], tell(x, wrong[i]), -100 - Integer.parseInt(wrong[i + 1]));
        }
        due("7 an empty tape", x.law(), -100);
    }

    private static void promise8() {
        SwitchboardHeart x = town(10, 20);
        x.mend(1, 3, 4);
        x.mend(10, 3, -9);
        due("8 without a text", x.warmer(1, 50), 9);
        due("8 without a text", x.warmer(10, 0), -4);
        due("8 h -1", x.warmer(1, -1), VOID);
        due("8 h 100", x.warmer(1, 100), VOID);
        due("8 h 99", x.warmer(1, 99), 9);
        due("8 oneself", x.warmer(0, 0), VOID);
        due("8 no such line", x.warmer(2, 0), VOID);
        due("8 no such line", x.warmer(20, 0), VOID);
        due("8 below", x.warmer(-1, 0), VOID);
        String[] sums = {"2+3*4", "14", "(2+3)*4", "20", "7/2", "3", "-7/2", "-3", "-7%3", "-1", "7%-3", "1", "7/0", "0",
            "7%0", "0", "2-3-4", "-5", "2--3", "5", "20/2/5", "2", "17%10%4", "3", "!0", "1", "!5", "0", "!!5", "1", "-!0", "-1",
            "5|0", "1", "0|0", "0", "0|7|0", "1", "5&3", "1", "5&0", "0", "2&3&4", "1", "1|1&0", "1", "(1|1)&0", "0", "3", "3",
            "2<3", "1", "3<3", "0", "3=3", "1", "2=3", "0", "3>2", "1", "3>3", "0", "1+1=2", "1", "2*3>5", "1",
            "(1<2)+5", "6", "5&3<4", "1", "21", "20", "-21", "-20", "0-20", "-20", "9999*9999*9999", "-20",
            "9999*9999*21", "20", "9999*9999*22", "-20", "0?5;6", "6", "3?5;6", "5", "0?5", "0", "0?5;0?6", "0", "0?5;1?6;7", "6",
            "-1?8;9", "8", "4;5", "4", "0;5", "0", "1/0?2;3", "3", "0007", "7", "-(2+3)", "-5", "!(2-2)+1", "2", "-2*3", "-6"};
        for (int i = 0; i < sums.length; i += 2) {
            due("8 text " + sums[i], tell(x, sums[i]), 1);
            due("8 " + sums[i], x.warmer(1, 0), Integer.parseInt(sums[i + 1]));
        }
    }

    private static void promise8Names() {
        SwitchboardHeart x = town(10, 17, 3);
        x.mend(1, 3, 4);
        x.mend(0, 5, 6);
        x.mend(0, 2, 2);
        x.mend(2, 2, 2);
        String[] names = {"l", "w", "o", "h", "c", "p"};
        int[] of01 = {4, 10, 17, 13, 6, 0};
        int[] of10 = {0, 17, 10, 13, 6, 0};
        int[] of02 = {0, 10, 3, 13, 6, 1};
        for (int i = 0; i < 6; i++) {
            tell(x, names[i]);
            due("8 " + names[i], x.warmer(1, 13), of01[i]);
            due("8 " + names[i], x.warmer(10, 13), of10[i]);
            due("8 " + names[i], x.warmer(2, 13), of02[i]);
        }
        x.mend(2, 2, 0);
        x.mend(0, 2, 0);
        tell(x, "p");
        due("8 party 0 is none", x.warmer(2, 0), 0);
        tell(x, "20");
        x.mend(0, 0, 95);
        due("8 as the law gives it, above 99 too", x.warmer(1, 0), 20);
    }

    // ---- 9 to 13

    private static void days() {
        promise9();
        promise9Parties();
        promise10();
        promise11();
        promise12();
        promise13();
        refusedDays();
    }

    private static void promise9() {
        SwitchboardHeart x = town(10, 90, 1);
        bytes(x, 0, 1, -1, -1, 10);
        due("9 now", x.later(0, 0, 0), 10);
        due("9 put through", x.later(0, 1, 0), 15);
        due("9 put through", x.later(0, 1, 1), 95);
        due("9 colder, not below 0", x.later(0, 1, 2), 0);
        due("9 an hour without plugs", x.later(0, 2, 0), 13);
        due("9 again", x.later(0, 3, 0), 18);
        due("9 held to 99", x.later(0, 3, 1), 98);
        due("9 behind the last hour", x.later(0, 5, 0), 14);
        due("9 60 hours", x.later(0, 60, 0), 0);
        x.putIn(1);
        x.hour();
        due("9 from now", x.later(0, 0, 0), 15);
        tell(x, "h");
        due("9 no plugs as it begins", x.later(0, 1, 0), 15);
        bytes(x, 0, 1, -1, 10, -1, 1);
        due("9 h grows in thought", x.later(0, 3, 0), 18);
        bytes(x, 0, 1, -1, 1, -1, -1, 1);
        due("9 h begins again", x.later(0, 4, 0), 14);
        tell(x, "o");
        due("9 all as they are as the hour begins", x.later(0, 1, 0), 35);
        due("9 all as they are as the hour begins", x.later(0, 1, 1), 99);
        due("9 in thought alone", x.of(0, 0), 15);
    }

    private static void promise9Parties() {
        SwitchboardHeart x = town(10, 10, 10, 10, 99);
        x.mend(0, 2, 1);
        x.mend(2, 2, 1);
        x.mend(3, 2, 2);
        x.mend(4, 2, 1);
        bytes(x, 0, 1);
        due("9 through, on a party line", x.later(0, 1, 0), 15);
        due("9 on a party line of one who is through", x.later(0, 1, 2), 11);
        due("9 on another party line", x.later(0, 1, 3), 8);
        due("9 held to 99", x.later(0, 1, 4), 99);
        bytes(x, 0, 13);
        due("9 on a party line of none", x.later(0, 1, 0), 8);
        x.mend(3, 2, 0);
        x.mend(1, 2, 0);
        bytes(x, 0, 31);
        due("9 party 0 is none", x.later(0, 1, 2), 8);
    }

    private static void promise10() {
        SwitchboardHeart x = town(30, 29, 28, 5);
        due("10 no row", x.have(0, 0, 0), -11);
        bytes(x, 0, 12, -1, 12, 23, 22, -1, 99, -5, 40, 4, 3, 12, 30);
        due("10 has as much as it needs", x.have(0, 0, 0), 1);
        due("10 behind one", x.have(0, 1, 0), 6);
        due("10 none unlawful yet", x.have(0, 0, 1), 0);
        due("10 none unlawful", x.have(0, 1, 1), 0);
        due("10 one through already, one with itself", x.have(0, 2, 1), 2);
        due("10 no such lines, through", x.have(0, 3, 1), 2 + 4 + 1);
        due("10 behind the last hour", x.have(0, 60, 1), 7);
        x.mend(0, 4, 1);
        due("10 no cord left", x.have(0, 3, 1), 2 + 4 + 2);
        x.mend(0, 4, 0);
        due("10 no cord at all", x.have(0, 1, 1), 1);
        due("10 what 2", x.have(0, 0, 2), BAD);
        due("10 what -1", x.have(0, 0, -1), BAD);
        due("10 bad ahead of -11", x.have(1, 0, 2), BAD);
    }

    private static void promise11() {
        SwitchboardHeart x = town(1, 2, 3);
        bytes(x, 0, 1, -1, 10, -1, 1, -1, 12, -1, 1);
        due("11 none yet", x.through(0, 0, 1), 0);
        due("11 one", x.through(0, 1, 1), 1);
        due("11 two", x.through(0, 2, 1), 2);
        due("11 three, told the other way", x.through(0, 3, 10), 3);
        due("11 not then", x.through(0, 4, 1), 0);
        due("11 another", x.through(0, 4, 12), 1);
        due("11 begun again", x.through(0, 5, 1), 1);
        due("11 behind the last hour", x.through(0, 6, 1), 0);
        due("11 not these two", x.through(0, 3, 2), 0);
        due("11 oneself", x.through(0, 3, 11), BAD);
        due("11 no such line", x.through(0, 3, 13), BAD);
        due("11 n", x.through(0, 61, 1), BAD);
    }

    private static void promise12() {
        SwitchboardHeart x = town(1, 2, 3);
        bytes(x, 0, 1, -1, 12, -1, -1, 20);
        due("12 none yet", x.idle(0, 0, 2), 0);
        due("12 one", x.idle(0, 1, 2), 1);
        due("12 through then", x.idle(0, 2, 2), 1);
        due("12 none is through", x.idle(0, 3, 2), 2);
        due("12 of the first", x.idle(0, 4, 0), 2);
        due("12 all hours", x.idle(0, 60, 0), 58);
        x.mend(0, 4, 0);
        due("12 without cords", x.idle(0, 4, 0), 4);
        due("12 no such line", x.idle(0, 0, 3), BAD);
    }

    private static void promise13() {
        SwitchboardHeart x = town(1, 2, 3, 4, 5, 6);
        bytes(x, 0, 1, 23, -1, 12, -1, 34);
        due("13 now", x.news(0, 0, 0, -1), 1);
        due("13 by wire", x.news(0, 1, 0, -1), 3);
        due("13 on and on", x.news(0, 2, 0, -1), 7);
        due("13 3 heard nothing", x.news(0, 3, 0, -1), 7);
        due("13 of 3", x.news(0, 3, 3, -1), 8 + 4 + 2 + 16);
        due("13 the first hour", x.news(0, 0, 0, 2), 1);
        due("13 the first hour", x.news(0, 0, 3, 4), 2);
        due("13 never", x.news(0, 60, 0, 3), NOT);
        due("13 oneself", x.news(0, 0, 5, 5), 0);
        bytes(x, 1, 12, 1, -1);
        due("13 one through already", x.news(1, 9, 0, -1), 1);
        bytes(x, 1, 1, 12);
        x.mend(0, 4, 3);
        due("13 not twice in an hour", x.news(1, 9, 0, -1), 3);
        x.mend(5, 2, 2);
        x.mend(1, 2, 2);
        due("13 by the party line of whom is told", x.news(1, 1, 0, -1), 3 + 32);
        due("13 by the party line of who knows it", x.news(1, 1, 1, -1), 3 + 32);
        due("13 who is not through tells nobody", x.news(1, 1, 5, -1), 32);
        bytes(x, 1, 1, 45);
        due("13 not by one who hears it in this hour", x.news(1, 1, 0, -1), 3 + 32);
        bytes(x, 1, 1, -1, 45);
        due("13 but in the next", x.news(1, 2, 0, -1), 3 + 32 + 16);
        due("13 first hour by party line", x.news(1, 60, 0, 5), 0);
        due("13 first hour behind it", x.news(1, 60, 0, 4), 1);
        int[] late = new int[60];
        java.util.Arrays.fill(late, -1);
        late[59] = 2;
        bytes(x, 2, late);
        due("13 the last hour", x.news(2, 0, 0, 2), 59);
        due("13 n 61", x.news(0, 61, 0, 2), BAD);
        due("13 n -1", x.news(0, -1, 0, 2), BAD);
        due("13 other -2", x.news(0, 0, 0, -2), BAD);
        due("13 other 6", x.news(0, 0, 0, 6), BAD);
        due("13 one 6", x.news(0, 0, 6, -1), BAD);
    }

    private static void refusedDays() {
        SwitchboardHeart x = town(1, 2);
        x.body(0);
        x.keep(1, 0);
        x.row(2, 4, 3);
        int[] want = {-11, -12, -12};
        for (int shelf = 0; shelf < 3; shelf++) {
            due("9 refusal", x.later(shelf, 0, 0), want[shelf]);
            due("10 refusal", x.have(shelf, 0, 0), want[shelf]);
            due("11 refusal", x.through(shelf, 0, 1), want[shelf]);
            due("12 refusal", x.idle(shelf, 0, 0), want[shelf]);
            due("13 refusal", x.news(shelf, 0, 0, -1), want[shelf]);
            due("18 refusal", x.which(shelf, -1), want[shelf]);
            due("19 refusal", x.sure(shelf), want[shelf]);
            due("20 refusal", x.lamp(shelf), want[shelf]);
            due("21 refusal", x.cut(shelf, 0, 1), want[shelf]);
            due("23 refusal", x.nieces(shelf, 0, 0, 0), NO_LONG);
            due("9 bad first", x.later(shelf, 61, 0), BAD);
            due("9 bad first", x.later(shelf, -1, 0), BAD);
            due("9 bad first", x.later(shelf, 0, 2), BAD);
            due("10 bad first", x.have(shelf, 61, 0), BAD);
            due("12 bad first", x.idle(shelf, 0, -1), BAD);
            due("12 bad first", x.idle(shelf, 61, 0), BAD);
            due("18 bad first", x.which(shelf, -2), BAD);
            due("21 bad first", x.cut(shelf, 0, 0), BAD);
            due("21 bad first", x.cut(shelf, 61, 1), BAD);
        }
        for (int shelf = -1; shelf <= 6; shelf += 7) {
            due("9 no shelf", x.later(shelf, 0, 0), BAD);
            due("10 no shelf", x.have(shelf, 0, 0), BAD);
            due("11 no shelf", x.through(shelf, 0, 1), BAD);
            due("12 no shelf", x.idle(shelf, 0, 0), BAD);
            due("13 no shelf", x.news(shelf, 0, 0, 1), BAD);
            due("18 no shelf", x.which(shelf, 0), BAD);
            due("19 no shelf", x.sure(shelf), BAD);
            due("20 no shelf", x.lamp(shelf), BAD);
            due("21 no shelf", x.cut(shelf, 0, 1), BAD);
            due("23 no shelf", x.nieces(shelf, 0, 0, 0), NO_LONG);
        }
    }

    // ---- 14 to 17

    private static void ways() {
        promise14();
        promise14Ties();
        promise15();
        promise16();
        promise17();
    }

    private static void promise14() {
        SwitchboardHeart x = town(10, 20, 30, 40);
        due("14 sum", x.best(0, -1), 120);
        due("14 first of like ones", x.best(0, 0), 1);
        due("14 first of like ones", x.best(0, 1), 23);
        due("14 no more", x.best(0, 2), NOT);
        x.mend(2, 3, 1);
        due("14 by likes", x.best(0, -1), 121);
        due("14 by likes", x.best(0, 0), 2);
        due("14 by likes", x.best(0, 1), 13);
        x.mend(0, 4, 1);
        due("14 one cord", x.best(0, -1), 10 + 30 + 11 + 18 + 38);
        due("14 one cord", x.best(0, 1), NOT);
        x.mend(0, 4, 0);
        due("14 no cord", x.best(0, -1), 92);
        due("14 no cord", x.best(0, 0), NOT);
        due("14 needs", x.best(1, -1), 1);
        x.mend(0, 4, 2);
        x.mend(1, 1, 25);
        due("14 needs", x.best(1, -1), 3);
        due("14 needs, one pair does", x.best(1, 0), 12);
        due("14 needs, one pair does", x.best(1, 1), NOT);
        x.putIn(3);
        tell(x, "h*10");
        x.hour();
        due("14 h 0, whatever is in", x.best(0, -1), x.of(0, 0) + x.of(1, 0) + x.of(2, 0) + x.of(3, 0));
        due("14 what 2", x.best(2, -1), BAD);
        due("14 what -1", x.best(-1, -1), BAD);
        due("14 k -2", x.best(0, -2), BAD);
        due("14 k most", x.best(0, MOST), NOT);
    }

    private static void promise14Ties() {
        SwitchboardHeart x = town(50, 50, 50, 50, 50, 50, 50, 50);
        x.mend(0, 5, 0);
        tell(x, "0");
        due("14 nobody is first", x.best(0, -1), 400);
        due("14 nobody is first", x.best(0, 0), NOT);
        due("14 nobody is first, by needs", x.best(1, -1), 8);
        due("14 nobody is first, by needs", x.best(1, 0), NOT);
        x.mend(0, 4, 4);
        tell(x, "1");
        int[] first = {1, 23, 45, 67, NOT};
        for (int k = 0; k < 5; k++) {
            due("14 the least first", x.best(0, k), first[k]);
        }
        x.mend(0, 4, 1);
        due("14 with one cord 0 is through to nobody first", x.best(0, 0), 67);
        x.mend(0, 4, 3);
        int[] three = {23, 45, 67, NOT};
        for (int k = 0; k < 4; k++) {
            due("14 with three cords, 0 and 1 wait", x.best(0, k), three[k]);
        }
    }

    private static void promise15() {
        SwitchboardHeart x = new SwitchboardHeart();
        due("15 no lines: one way", x.stable(-1), 1);
        due("15 no pair", x.stable(0), NOT);
        due("15 k -2", x.stable(-2), BAD);
        for (int i = 0; i < 4; i++) {
            x.line(50);
        }
        due("15 nobody likes: every way", x.stable(-1), 10);
        due("15 the first is nobody", x.stable(0), NOT);
        x.mend(1, 3, 5);
        x.mend(10, 3, 5);
        due("15 two like each other", x.stable(-1), 2);
        due("15 these two", x.stable(0), 1);
        due("15 and no more in the first", x.stable(1), NOT);
        x.mend(12, 3, 9);
        due("15 one alone would rather: it may, or not", x.stable(-1), 4);
        due("15 0 through to nobody is first", x.stable(0), 12);
        x.mend(21, 3, 1);
        due("15 now both would", x.stable(0), 12);
        x.mend(21, 3, -1);
        due("15 the other would not", x.stable(0), 1);
        x.mend(23, 3, -1);
        due("15 one likes whom it has less than 0", x.stable(-1), 1);
        x.mend(0, 4, 0);
        due("15 however many cords", x.stable(0), 1);
        SwitchboardHeart y = town(1, 1, 1);
        y.mend(1, 3, 2);
        y.mend(2, 3, 1);
        y.mend(12, 3, 2);
        y.mend(10, 3, 1);
        y.mend(20, 3, 2);
        y.mend(21, 3, 1);
        due("15 three in a ring: none", y.stable(-1), 0);
        due("15 none: no pair", y.stable(0), NOT);
        SwitchboardHeart z = town(0, 0, 0, 0, 0, 0, 0, 0);
        due("15 all ways of eight", z.stable(-1), 764);
        SwitchboardHeart u = town(0, 0);
        u.mend(1, 3, -1);
        due("15 the first likes whom it has less than 0", u.stable(-1), 1);
    }

    private static void promise16() {
        SwitchboardHeart x = town(10, 30, 0);
        due("16 both", x.soon(1), 4);
        due("16 both", x.soon(10), 4);
        due("16 now", x.mend(0, 1, 10), 30);
        due("16 now", x.soon(1), 0);
        x.mend(0, 1, 99);
        due("16 later", x.soon(1), 18);
        x.mend(0, 4, 0);
        due("16 whatever cords there are", x.soon(1), 18);
        tell(x, "h=59?20;0");
        x.mend(0, 1, 30);
        due("16 behind 60 hours", x.soon(1), 60);
        tell(x, "h=60?20;0");
        due("16 not behind 61", x.soon(1), NOT);
        tell(x, "-1");
        due("16 never", x.soon(1), NOT);
        tell(x, "h");
        x.mend(0, 4, 1);
        x.putIn(1);
        x.hour();
        due("16 begins with no plugs", x.soon(1), 7);
        due("16 oneself", x.soon(11), BAD);
        due("16 no such line", x.soon(3), BAD);
        due("16 below", x.soon(-1), BAD);
    }

    private static void promise17() {
        SwitchboardHeart x = town(1, 1);
        due("17 there is none", x.instead(1), NOT);
        x.line(1);
        due("17 the only one", x.instead(1), 2);
        x.mend(2, 3, -9);
        due("17 the only one, liked or not", x.instead(1), 2);
        x.line(1);
        x.line(1);
        due("17 the least of like ones", x.instead(1), 3);
        x.mend(4, 3, 1);
        due("17 most", x.instead(1), 4);
        x.mend(1, 3, 9);
        due("17 not the dead one", x.instead(1), 4);
        due("17 of another dead one", x.instead(4), 1);
        x.mend(14, 3, -1);
        x.mend(10, 3, -1);
        due("17 by its own likes", x.instead(13), 2);
        due("17 oneself", x.instead(11), BAD);
        due("17 no such line", x.instead(5), BAD);
        due("17 below", x.instead(-10), BAD);
    }

    // ---- 18 to 24

    private static void readBack() {
        promises18to20();
        promise18Edges();
        promise21();
        promise22();
        promise23();
        promise23Slips();
        promise24();
    }

    private static void promises18to20() {
        SwitchboardHeart x = town(10, 20, 30, 40);
        bytes(x, 0, 15);
        due("18 0 is through to one of three, the others may be", x.which(0, -1), 6);
        due("18 first", x.which(0, 0), 1);
        due("18 first has one pair", x.which(0, 1), NOT);
        due("19 0 is sure", x.sure(0), 1);
        due("20 all others part 2 and 4", x.lamp(0), 1);
        bytes(x, 0, 8);
        due("18 0 is not through", x.which(0, -1), 4);
        due("18 nobody is first", x.which(0, 0), NOT);
        due("19 nobody is sure", x.sure(0), 0);
        due("20 2 of 4", x.lamp(0), 1);
        bytes(x, 0, 15, 25, 35, 45);
        due("18 all", x.which(0, -1), 3);
        due("18 first", x.which(0, 0), 1);
        due("18 first", x.which(0, 1), 23);
        due("18 no more", x.which(0, 2), NOT);
        due("19 all are sure", x.sure(0), 15);
        due("20 nothing parts: the least", x.lamp(0), 0);
        bytes(x, 0, 15, 18, 28, 38);
        due("18 one alone: no way", x.which(0, -1), 0);
        due("18 no way", x.which(0, 0), NOT);
        due("19 no way", x.sure(0), 0);
        due("20 no way", x.lamp(0), NOT);
        bytes(x, 0, 8, 18);
        due("19 asked first", x.sure(0), 0);
        bytes(x, 0, 15, 25);
        due("19 asked first", x.sure(0), 3);
        bytes(x, 0, 15, 25, 28);
        due("20 asked first, one way", x.lamp(0), 0);
        bytes(x, 0, 15, 25, 27);
        due("20 asked first, no way", x.lamp(0), NOT);
        bytes(x, 0);
        due("18 any", x.which(0, -1), 10);
        due("20 any", x.lamp(0), 0);
        x.mend(0, 4, 1);
        due("18 within cords", x.which(0, -1), 7);
        x.mend(0, 4, 0);
        due("18 within cords", x.which(0, -1), 1);
    }

    private static void promise18Edges() {
        SwitchboardHeart x = town(10, 20);
        bytes(x, 0, 15, 25, 77, -128);
        due("18 what is behind the last line doesn't matter", x.which(0, -1), 1);
        due("18 pair", x.which(0, 0), 1);
        due("19 sure", x.sure(0), 3);
        x.putIn(1);
        tell(x, "h?9;5");
        x.hour();
        bytes(x, 0, 20, 30);
        due("18 h 0, whatever is in", x.which(0, -1), 1);
        due("18 k -2", x.which(0, -2), BAD);
        due("18 k most", x.which(0, MOST), NOT);
        SwitchboardHeart y = new SwitchboardHeart();
        due("20 -11 ahead of NOT", y.lamp(0), -11);
        bytes(y, 0, 1, 2);
        due("18 no line: one way", y.which(0, -1), 1);
        due("20 no line", y.lamp(0), NOT);
        due("19 no line", y.sure(0), 0);
        SwitchboardHeart z = town(10, 10, 10);
        z.mend(0, 2, 1);
        z.mend(1, 2, 1);
        bytes(z, 0, 11);
        due("18 by the party line", z.which(0, -1), 1);
        due("18 by the party line", z.which(0, 0), 12);
    }

    private static void promise21() {
        SwitchboardHeart x = town(1, 1, 1, 1, 1);
        bytes(x, 0, 1, -1, 12, -1, 23);
        due("21 both between", x.cut(0, 3, 3), 2 + 4);
        due("21 for two hours it does not know", x.cut(0, 2, 3), 0);
        due("21 one between", x.cut(0, 2, 2), 2);
        due("21 nobody between", x.cut(0, 3, 1), 0);
        due("21 n 0", x.cut(0, 0, 1), 0);
        due("21 never", x.cut(0, 60, 4), 0);
        bytes(x, 0, 1, 4, -1, 13, 43, -1, 43);
        due("21 two roads: neither", x.cut(0, 3, 3), 0);
        due("21 without 1, 4 hears it and has the cord to 3", x.cut(0, 2, 3), 0);
        // pairs with 4 go, so that 0 and 1 have the cord, and 1 hears it
        bytes(x, 0, 42, 1);
        x.mend(0, 4, 1);
        due("21 what is left out takes no cord", x.cut(0, 1, 1), 0);
        bytes(x, 0, 4, 1, -1, 43, -1, 13);
        due("21 without 4, 1 has the cord", x.cut(0, 3, 3), 0);
        due("21 at once", x.cut(0, 2, 3), 16);
        x.mend(0, 4, 2);
        x.mend(1, 2, 2);
        x.mend(3, 2, 2);
        bytes(x, 0, 1, 24);
        due("21 by the party line", x.cut(0, 1, 3), 2);
        x.mend(4, 2, 2);
        x.mend(3, 2, 0);
        bytes(x, 0, 1, -1, 43);
        due("21 a cut one's party is 0", x.cut(0, 2, 3), 2 + 16);
        due("21 n 61", x.cut(0, 61, 1), BAD);
        due("21 oneself", x.cut(0, 1, 11), BAD);
        due("21 no such line", x.cut(0, 1, 5), BAD);
    }

    private static void promise22() {
        SwitchboardHeart x = new SwitchboardHeart();
        due("22 no line", x.first(), NOT);
        x.line(30);
        due("22 it has what it needs", x.first(), NOT);
        x.line(29);
        due("22 by one", x.first(), 1);
        x.line(29);
        due("22 the least of like ones", x.first(), 1);
        x.mend(2, 1, 31);
        due("22 most", x.first(), 2);
        x.mend(0, 1, 99);
        due("22 most", x.first(), 0);
    }

    private static void promise23() {
        SwitchboardHeart x = town(10, 20, 30);
        x.mend(1, 3, 5);
        bytes(x, 0, 1);
        // told: 20 + 25 + 28; else 0 to 2: 15 + 18 + 35
        fraction(x, 6, 73, 1, 2);
        fraction(x, 3, 73, 1, 4);
        fraction(x, 12, 73, 1, 1);
        fraction(x, 0, 73, 0, 1);
        fraction(x, 5, 74, 0, 1);
        fraction(x, 5, 68, 1, 1);
        fraction(x, 5, 69, 5, 12);
        fraction(x, 10, 69, 5, 6);
        fraction(x, 2, 69, 1, 6);
        fraction(x, 9, 69, 3, 4);
        fraction(x, 5, LEAST, 1, 1);
        fraction(x, 5, MOST, 0, 1);
        bytes(x, 0, -1, 1);
        fraction(x, 5, 54, 1, 1);
        fraction(x, 5, 55, 0, 1);
        bytes(x, 0);
        fraction(x, 5, 54, 1, 1);
        fraction(x, 5, 55, 0, 1);
        bytes(x, 0, 99, 0, -7, 11, 30, 3, 1);
        fraction(x, 6, 55, 0, 1);
        bytes(x, 0, 99, 0, -7, 11, 30, 1);
        fraction(x, 6, 55, 1, 1);
        due("23 skill -1", x.nieces(0, -1, 0, 0), NO_LONG);
        due("23 skill 13", x.nieces(0, 13, 0, 0), NO_LONG);
        due("23 part 2", x.nieces(0, 0, 0, 2), NO_LONG);
        due("23 part -1", x.nieces(0, 0, 0, -1), NO_LONG);
    }

    private static void promise23Slips() {
        SwitchboardHeart x = town(10, 10, 10, 10);
        // 3 to 2: next above 2 is 3 itself, it is not put through at all
        bytes(x, 0, 32);
        fraction(x, 6, 46, 1, 2);
        fraction(x, 6, 32, 1, 1);
        // 1 to 3: next above the last is 0
        bytes(x, 0, 13);
        x.mend(10, 3, 9);
        fraction(x, 4, 55, 2, 3);
        // 0 to 1, then 2 to 3: a slip of the first (0 to 2) leaves the second out; of the second finds 0 through
        x.mend(10, 3, 0);
        bytes(x, 0, 1, 23);
        fraction(x, 8, 60, 4, 9);
        fraction(x, 8, 46, 1, 1);
        x.mend(0, 4, 1);
        fraction(x, 8, 47, 0, 1);
        x.mend(0, 4, 2);
        // the first is not put through at all (0 to 3, next is 0), its cord is free then
        x.mend(0, 4, 1);
        bytes(x, 0, 3, 12);
        fraction(x, 0, 46, 1, 1);
        fraction(x, 6, 47, 0, 1);
        x.putIn(1);
        tell(x, "h?9;5");
        x.hour();
        bytes(x, 0, 23);
        due("23 no plugs are in, whatever is in", x.nieces(0, 12, 0, 1), 1);
        fraction(x, 12, x.of(0, 0) + x.of(1, 0) + x.of(2, 0) + x.of(3, 0) - 4 + 10, 1, 1);
    }

    private static void promise24() {
        SwitchboardHeart x = town(50, 50, 50, 50, 50, 50, 50, 50);
        // seed 1: z = 1103527590, lines (z >>> 6) % 8 = 2 and (z >>> 14) % 8 = 1; then -1770082073, 3 and 2
        x.mend(0, 4, 1);
        due("24 first pair is lawful", x.drawn(1, 101, 1), 0);
        x.mend(0, 4, 2);
        due("24 of the second 2 is through already", x.drawn(1, 101, 1), 1);
        x.mend(1, 1, 56);
        x.mend(2, 1, 55);
        x.mend(7, 1, 49);
        for (int i = 3; i < 7; i++) {
            x.mend(i, 1, 48);
        }
        due("24 who has needs: 0, 2, 3, 4, 5, 6", x.drawn(1, 101, 0), 6);
        x.mend(3, 1, 49);
        due("24 not 3 any more", x.drawn(1, 101, 0), 5);
        x.mend(1, 1, 55);
        due("24 but 1", x.drawn(1, 101, 0), 6);
        x.mend(0, 4, 0);
        due("24 no cords", x.drawn(1, 2060, 1), 0);
        due("24 no cords: all cold", x.drawn(1, 2060, 0), 0);
        for (int i = 0; i < 8; i++) {
            x.mend(i, 1, 0);
        }
        due("24 all have needs, each winter", x.drawn(1, 2060, 0), 160);
        due("24 each winter begins from now", x.drawn(1, 301, 0), 24);
        int[] wrong = {0, 1, 60, 99, 100, 161, 2000, 2061, 2101, -101, LEAST, MOST};
        for (int nm : wrong) {
            due("24 nm " + nm, x.drawn(1, nm, 0), BAD);
        }
        due("24 what 2", x.drawn(1, 101, 2), BAD);
        due("24 what -1", x.drawn(1, 101, -1), BAD);
        due("24 any seed", x.drawn(LEAST, 101, 1), 0);
        // seed, nm, and both answers, by a program apart from this one
        int[][] draws = {{7, 1024, 49, 665}, {-5, 2060, 118, 3304}, {123456789, 160, 5, 177}, {2147483647, 2001, 52, 52}, {0, 1530, 71, 1266}};
        SwitchboardHeart y = town(50, 40, 30, 20, 10, 0);
        y.mend(0, 4, 4);
        y.mend(0, 5, 1);
        tell(y, "h*9+3");
        for (int[] draw : draws) {
            due("24 needs of seed " + draw[0], y.drawn(draw[0], draw[1], 0), draw[2]);
            due("24 unlawful of seed " + draw[0], y.drawn(draw[0], draw[1], 1), draw[3]);
        }
    }

    // ---- 25 to 30

    private static void deeds() {
        promises25and26();
        promises27and28();
        promises29and30();
    }

    private static void promises25and26() {
        SwitchboardHeart x = town(10, 10, 10, 10, 10, 10);
        due("25 in", x.putIn(1), 1);
        due("25 in", x.putIn(32), 2);
        due("25 no cord is left", x.putIn(45), STATE);
        due("25 one is through", x.putIn(14), STATE);
        x.mend(0, 4, 4);
        due("25 one is through", x.putIn(41), STATE);
        due("25 the same", x.putIn(1), STATE);
        due("25 oneself", x.putIn(44), BAD);
        due("25 no such line", x.putIn(46), BAD);
        due("25 below", x.putIn(-1), BAD);
        due("25 in", x.putIn(54), 3);
        due("26 not in", x.pull(2), STATE);
        due("26 nobody is", x.pull(12), STATE);
        due("26 no hours", x.pull(45), 0);
        x.hour();
        due("26 one hour", x.pull(23), 1);
        due("26 not in any more", x.pull(23), STATE);
        due("26 oneself", x.pull(11), BAD);
        due("26 no such line", x.pull(16), BAD);
        due("26 below", x.pull(-1), BAD);
        due("25 count", x.count(1), 1);
        due("25 anew", x.putIn(23), 2);
        due("25 begins at 0", x.of(2, 7), 0);
        due("25 led", x.led(1), 4);
        due("26 led", x.led(2), 2);
        due("28 who is through", x.led(4), 15);
    }

    private static void promises27and28() {
        SwitchboardHeart x = town(28, 96, 1, 50);
        x.mend(1, 3, 2);
        x.mend(2, 2, 1);
        x.mend(1, 2, 1);
        due("27 nobody through", x.hour(), 2 + 8);
        due("28 nobody is warmer", x.led(3), 0);
        x.putIn(1);
        due("27 who has needs", x.hour(), 1 + 2 + 8);
        due("27 warm", x.of(0, 0), 33);
        due("27 held to 99", x.of(1, 0), 99);
        due("27 by the party line", x.of(2, 0), 1);
        due("27 colder", x.of(3, 0), 46);
        due("28 degrees, what is above 99 is none", x.led(3), 7 + 5 + 1);
        x.hour();
        due("28 degrees", x.led(3), 13 + 7 + 0 + 1);
        due("28 hours", x.led(0), 3);
        due("28 put in", x.led(1), 1);
        due("28 pulled", x.led(2), 0);
        due("28 who", x.led(4), 3);
        x.mend(3, 0, 99);
        due("28 what is told is none", x.led(3), 21);
        tell(x, "h");
        x.hour();
        due("27 h in deed", x.of(0, 0), 42);
        due("28 what 5", x.led(5), BAD);
        due("28 what -1", x.led(-1), BAD);
        SwitchboardHeart y = new SwitchboardHeart();
        due("27 no line", y.hour(), 0);
        due("28 hours", y.led(0), 1);
    }

    private static void promises29and30() {
        SwitchboardHeart x = town(10, 20);
        due("30 there is none", x.back(), STATE);
        x.putIn(1);
        x.hour();
        x.hour();
        due("29 hours", x.image(), 2);
        x.hour();
        x.pull(1);
        x.line(60);
        x.line(70);
        x.mend(0, 1, 77);
        x.putIn(2);
        x.putIn(13);
        x.hour();
        due("30 hours of the image", x.back(), 2);
        due("30 warm", x.of(0, 0), 20);
        due("30 plugs", x.of(0, 6), 1);
        due("30 their hours", x.of(0, 7), 2);
        due("30 one that came since: through to nobody", x.of(2, 6), NOT);
        due("30 one that came since: its hours", x.of(2, 7), 0);
        due("30 one that came since: warm as it is", x.of(2, 0), 65);
        due("30 one that came since: warm as it is", x.of(3, 0), 75);
        due("30 needs are not laid back", x.of(0, 1), 77);
        due("30 led hours", x.led(0), 2);
        due("30 led put in", x.led(1), 1);
        due("30 led pulled", x.led(2), 0);
        due("30 led degrees", x.led(3), 20);
        due("30 led who", x.led(4), 3);
        due("30 pairs in", x.count(1), 1);
        x.hour();
        due("30 as often as asked", x.back(), 2);
        due("30 warm", x.of(1, 0), 30);
        x.hour();
        due("29 a later one", x.image(), 3);
        x.hour();
        due("30 the latest", x.back(), 3);
        due("30 the latest", x.of(0, 7), 3);
    }

    // ---- 31, 32

    private static void changes() {
        promises31and32();
        fortyChanges();
        changesAndDeeds();
    }

    private static void promises31and32() {
        SwitchboardHeart x = town(10, 20);
        due("31 none", x.undo(), STATE);
        due("32 none", x.redo(), STATE);
        x.mend(0, 0, 11);
        x.mend(0, 1, 12);
        x.mend(0, 2, 3);
        x.mend(1, 3, 4);
        x.mend(0, 4, 1);
        x.mend(0, 5, 9);
        due("31 undone", x.undo(), 5);
        due("31 cold", x.of(0, 5), 2);
        due("31 undone", x.undo(), 4);
        due("31 cords", x.of(0, 4), 2);
        due("31 undone", x.undo(), 3);
        due("31 likes", x.of(1, 3), 0);
        due("31 undone", x.undo(), 2);
        due("31 party", x.of(0, 2), 0);
        due("31 undone", x.undo(), 1);
        due("31 needs", x.of(0, 1), 30);
        due("31 undone", x.undo(), 0);
        due("31 warm", x.of(0, 0), 10);
        due("31 none", x.undo(), STATE);
        due("32 again", x.redo(), 5);
        due("32 warm", x.of(0, 0), 11);
        due("32 again", x.redo(), 4);
        due("32 needs", x.of(0, 1), 12);
        x.mend(0, 5, 2);
        due("32 the same is no change", x.redo(), 3);
        due("31 count", x.count(3), 3);
        x.line(5);
        tell(x, "l");
        due("32 a line, a law is no change", x.redo(), 2);
        x.mend(0, 5, 5);
        due("32 another came behind", x.redo(), STATE);
        due("31 count", x.count(3), 5);
        due("31 undone", x.undo(), 4);
        due("31 cold", x.of(0, 5), 2);
        due("32 again", x.redo(), 0);
        due("32 cold", x.of(0, 5), 5);
        due("32 none", x.redo(), STATE);
    }

    private static void fortyChanges() {
        SwitchboardHeart x = town(10);
        for (int i = 0; i < 45; i++) {
            x.mend(0, 0, 50 + i);
        }
        due("31 40 at most", x.count(3), 40);
        for (int i = 39; i >= 0; i--) {
            due("31 undone", x.undo(), i);
            due("31 warm", x.of(0, 0), 54 + i);
        }
        due("31 the oldest are gone", x.undo(), STATE);
        due("31 warm", x.of(0, 0), 54);
        unlikeChanges();
        for (int i = 39; i >= 0; i--) {
            due("32 again", x.redo(), i);
        }
        due("32 warm", x.of(0, 0), 94);
    }

    private static void unlikeChanges() {
        SwitchboardHeart x = town(1, 2, 3, 4, 5, 6, 7);
        for (int i = 0; i < 45; i++) {
            x.mend(i % 7, i % 3, i % 3 == 2 ? 1 + i / 21 : 40 + i);
        }
        int[] was = new int[21];
        for (int i = 0; i < 21; i++) {
            was[i] = x.of(i / 3, i % 3);
        }
        for (int i = 0; i < 40; i++) {
            x.undo();
        }
        due("31 the first five stay", x.of(0, 0), 40);
        due("31 the first five stay", x.of(1, 1), 41);
        due("31 the first five stay", x.of(2, 2), 1);
        due("31 the first five stay", x.of(3, 0), 43);
        due("31 the first five stay", x.of(4, 1), 44);
        due("31 the sixth is undone", x.of(5, 2), 0);
        due("31 the seventh is undone", x.of(6, 0), 7);
        for (int i = 0; i < 40; i++) {
            x.redo();
        }
        for (int i = 0; i < 21; i++) {
            due("32 all again", x.of(i / 3, i % 3), was[i]);
        }
    }

    private static void changesAndDeeds() {
        SwitchboardHeart x = town(10, 20);
        x.image();
        x.mend(0, 0, 50);
        x.putIn(1);
        x.hour();
        due("31 deeds are none", x.count(3), 1);
        due("31 undone", x.undo(), 0);
        due("31 what it was", x.of(0, 0), 10);
        due("31 of another: as by deeds", x.of(1, 0), 25);
        due("31 plugs stay", x.count(1), 1);
        x.hour();
        x.pull(1);
        x.back();
        due("32 deeds, back do not end it", x.redo(), 0);
        due("32 what it became", x.of(0, 0), 50);
        x.back();
        due("31 back does not undo it", x.count(3), 1);
        due("30 warm", x.of(0, 0), 10);
    }

    // ---- 33 to 35

    private static void acts() {
        SwitchboardHeart x = new SwitchboardHeart();
        due("33 kind -1", x.body(-1), BAD);
        due("33 kind 8", x.body(8), BAD);
        for (int i = 0; i < 50; i++) {
            due("33 number", x.body(i % 8), i);
        }
        due("33 full", x.body(0), FULL);
        due("33 bad ahead of full", x.body(8), BAD);
        due("33 count", x.count(4), 50);
        // number 8 + kind, x 5: warms, waits, crosses, tells
        int[][] want = {
            {13, 26, 13, 26 - 9}, {17, 34, 12, 34 - 8}, {15, -30, 15, -30 - 11}, {16, -34, 42, -34 - 30},
            {20, 40, 9, 30}, {18, -38, 24 - 15, 1 - 38 - 21}, {38, 76, 11, 76 - 15}, {39, 78 + 13, 10, 91 - 14},
        };
        for (int kind = 0; kind < 8; kind++) {
            for (int act = 0; act < 4; act++) {
                due("34 kind " + kind + " act " + act, x.act(8 + kind, act, 5), want[kind][act]);
            }
        }
        due("34 an int that wraps", x.act(1, 0, MOST), LEAST + 3);
        due("34 an int that wraps", x.act(14, 1, MOST), (MOST + 14) * 4);
        traces(x);
    }

    private static void traced(SwitchboardHeart x, int body, int act, int... want) {
        x.act(body, act, 5);
        due("42 ran of " + body + " " + act, x.count(5), want.length);
        for (int i = 0; i < want.length; i++) {
            due("35 trace of " + body + " " + act + " at " + i, x.trace(i), want[i]);
        }
        due("35 behind the last", x.trace(want.length), BAD);
        due("35 ahead of the first", x.trace(-1), BAD);
    }

    private static void traces(SwitchboardHeart x) {
        traced(x, 8, 0, 1);
        traced(x, 8, 1, 10, 1);
        traced(x, 8, 2, 11);
        traced(x, 8, 3, 2, 10, 1, 11);
        traced(x, 9, 0, 20, 1);
        traced(x, 9, 3, 2, 10, 20, 1, 11);
        traced(x, 10, 3, 2, 30, 10, 1, 11);
        traced(x, 11, 3, 2, 41, 30, 10, 1, 40, 11);
        traced(x, 12, 3, 50, 2, 10, 20, 1, 11);
        traced(x, 13, 3, 61, 2, 41, 30, 10, 1, 60, 40, 11, 1);
        traced(x, 14, 3, 2, 10, 70, 1, 11);
        traced(x, 15, 3, 2, 80, 10, 81, 70, 1, 11, 11);
        due("34 no such body", x.act(50, 0, 1), 0);
        due("35 no trace then", x.trace(0), BAD);
        due("42 none ran", x.count(5), 0);
        traced(x, 8, 0, 1);
        due("34 no such act", x.act(8, 4, 1), 0);
        due("35 no trace then", x.trace(0), BAD);
        traced(x, 8, 0, 1);
        due("34 no such act", x.act(8, -1, 1), 0);
        due("34 no such body", x.act(-1, 0, 1), 0);
        due("42 none ran", x.count(5), 0);
    }

    // ---- lines of greater numbers, where ten and nine times a line are far apart

    private static SwitchboardHeart eight() {
        SwitchboardHeart x = town(10, 11, 12, 13, 14, 15, 16, 17);
        for (int one = 0; one < 8; one++) {
            for (int other = 0; other < 8; other++) {
                x.mend(10 * one + other, 3, (3 * one + 5 * other) % 19 - 9);
            }
        }
        return x;
    }

    private static void eightLines() {
        SwitchboardHeart x = eight();
        for (int one = 0; one < 8; one++) {
            for (int other = 0; other < 8; other++) {
                int ab = 10 * one + other;
                int liking = (3 * one + 5 * other) % 19 - 9;
                due("5 likes of " + ab, x.of(ab, 3), one == other ? VOID : liking);
                due("8 warmer " + ab, x.warmer(ab, 0), one == other ? VOID : liking + 5);
            }
        }
        due("5 no line 8", x.of(78, 3), VOID);
        due("5 no line 8", x.of(87, 3), VOID);
        bytes(x, 0, 76, 45, -1, 67, -1, 67, 54);
        due("11 through", x.through(0, 3, 76), 3);
        due("11 through", x.through(0, 3, 45), 1);
        due("9 later", x.later(0, 1, 7), 17 + (21 + 30) % 19 - 9 + 5);
        due("9 later", x.later(0, 1, 4), 14 + (12 + 25) % 19 - 9 + 5);
        due("25 in", x.putIn(76), 1);
        due("26 not these", x.pull(75), STATE);
        due("26 not these", x.pull(65), STATE);
        x.hour();
        due("5 through to", x.of(6, 6), 7);
        due("26 out", x.pull(76), 1);
        due("5 hours of one pulled out", x.of(6, 7), 0);
        due("5 hours of one pulled out", x.of(7, 7), 0);
        eightAsked();
    }

    private static void eightAsked() {
        SwitchboardHeart x = eight();
        // 7 likes 0 to 6 by -7, -2, 3, 8, -6, -1, 4
        due("17 most", x.instead(76), 3);
        due("17 most but 3", x.instead(73), 6);
        // 3 likes 0, 1, 2, 4, 5, 6, 7 by 0, 5, -9, 1, 6, -8, -3
        due("17 most", x.instead(37), 5);
        // 2 likes 0, 1, 3, 4, 5, 6, 7 by -3, 2, -7, -2, 3, 8, -6
        due("17 most", x.instead(26), 5);
        x.mend(20, 3, 9);
        due("17 the least one too", x.instead(26), 0);
        x.mend(0, 1, 0);
        x.mend(7, 1, 0);
        x.mend(6, 1, 35);
        x.mend(5, 1, 20);
        // 6 likes 5 by -4, 5 likes 6 by -2: 1 and 3 an hour
        due("16 soon", x.soon(65), 19);
        due("16 soon", x.soon(56), 19);
        bytes(x, 0, 76, -1, 65, -1, 53, -1, 30);
        due("21 cut", x.cut(0, 4, 73), 64 + 32);
        due("21 cut", x.cut(0, 4, 70), 64 + 32 + 8);
        due("21 cut of 0", x.cut(0, 4, 67), 0);
        due("21 does not know", x.cut(0, 3, 70), 0);
        bytes(x, 0, 50, -1, 6, -1, 67);
        due("21 0 is between", x.cut(0, 2, 56), 1);
        due("21 0 is between", x.cut(0, 3, 57), 1 + 64);
        due("31 undone", x.undo(), 39);
        due("31 needs", x.of(5, 1), 30);
        bytes(x, 0, 75, 64);
        // 38 of 0 to 3; told, 7 to 5 and 6 to 4: 21, 23, 12, 14; a slip to 5, which is through: 21, 23, 14, 12;
        // a slip to 6, so that 6 to 4 is left out: 26, 27, 13, 12
        fraction(x, 11, 108, 1, 1);
        fraction(x, 11, 109, 1, 12);
        fraction(x, 11, 116, 1, 12);
        fraction(x, 11, 117, 0, 1);
        SwitchboardHeart z = town(1, 1, 1, 1);
        z.mend(0, 2, 3);
        z.mend(3, 2, 3);
        bytes(z, 0, 13);
        due("13 0 hears it by the party line", z.news(0, 1, 1, -1), 1 + 2 + 8);
        SwitchboardHeart y = town(0, 0, 0, 0, 0, 0, 0, 0);
        y.mend(67, 3, 1);
        y.mend(76, 3, 1);
        due("15 the two that like each other", y.stable(0), 67);
        y.mend(1, 3, -1);
        y.mend(67, 3, -1);
        due("15 ways without 01 and 67", y.stable(-1), 764 - 76 - 76 + 10);
    }

    // ---- 36 to 42

    private static void shelves() {
        promises36and41();
        promises37to39();
        promise40();
        promise42();
    }

    private static void promises36and41() {
        SwitchboardHeart x = new SwitchboardHeart();
        int[][] under = {{0}, {1, 0}, {2, 0}, {3, 2, 0}, {4, 1, 0}, {5, 3, 2, 0}, {6, 0}, {7, 6, 0}};
        for (int kind = 0; kind < 8; kind++) {
            x.body(kind);
            due("36 a body", x.keep(5, kind), 1);
            for (int k = 0; k < 8; k++) {
                int above = k;
                boolean is = java.util.Arrays.stream(under[kind]).anyMatch(a -> a == above);
                due("41 " + kind + " for " + k, x.taken(5, k), is ? kind : -12);
            }
        }
        due("36 nothing", x.keep(5, -1), 1);
        due("41 nothing", x.taken(5, 0), -11);
        due("36 no such body", x.keep(5, 8), BAD);
        due("36 no such body", x.keep(5, -2), BAD);
        due("36 no such shelf", x.keep(6, 0), BAD);
        due("36 no such shelf", x.keep(-1, -1), BAD);
        x.row(5, 0, 1);
        due("41 a row", x.taken(5, 0), -12);
        due("41 k 8", x.taken(5, 8), BAD);
        due("41 k -1", x.taken(5, -1), BAD);
        due("41 no such shelf", x.taken(6, 0), BAD);
        due("41 bad ahead of -11", x.taken(0, 8), BAD);
        x.keep(5, 2);
        due("36 in place of a row", x.element(5, 0), NO_LONG);
        due("36 in place of a row", x.taken(5, 0), 2);
    }

    private static void promises37to39() {
        SwitchboardHeart x = new SwitchboardHeart();
        due("37 shelf 6", x.row(6, 0, 1), BAD);
        due("37 shelf -1", x.row(-1, 0, 1), BAD);
        due("37 sort 5", x.row(0, 5, 1), BAD);
        due("37 sort -1", x.row(0, -1, 1), BAD);
        due("37 n 61", x.row(0, 0, 61), BAD);
        due("37 n -1", x.row(0, 0, -1), -14);
        due("37 bad ahead of -14", x.row(0, 5, -1), BAD);
        due("38 nothing", x.put(0, 0, 1), -11);
        due("39 nothing", x.element(0, 0), NO_LONG);
        long wild = 0x123456789ABCDEF0L + 0x8080;
        long[] kept = {(byte) wild, (short) wild, (int) wild, wild, 1};
        for (int sort = 0; sort < 5; sort++) {
            due("37 a row", x.row(0, sort, 60), 1);
            due("39 0 at first", x.element(0, 59), 0);
            due("38 put", x.put(0, 59, wild), 1);
            due("39 lowest bits, sort " + sort, x.element(0, 59), kept[sort]);
            due("38 256", x.put(0, 0, 256), 1);
            due("39 256, sort " + sort, x.element(0, 0), sort == 0 ? 0 : sort == 4 ? 1 : 256);
            due("38 0", x.put(0, 0, 0), 1);
            due("39 0", x.element(0, 0), 0);
            due("38 no place", x.put(0, 60, 1), -13);
            due("38 no place", x.put(0, -1, 1), -13);
            due("39 no place", x.element(0, 60), NO_LONG);
            due("39 no place", x.element(0, -1), NO_LONG);
        }
        x.row(0, 3, 1);
        due("38 a long", x.put(0, 0, Long.MAX_VALUE), 1);
        due("39 a long", x.element(0, 0), Long.MAX_VALUE);
        due("37 a smaller row", x.row(0, 0, 0), 1);
        due("38 no place", x.put(0, 0, 1), -13);
        x.body(0);
        x.keep(0, 0);
        due("38 a body", x.put(0, 0, 1), -12);
        due("39 a body", x.element(0, 0), NO_LONG);
        due("38 no shelf", x.put(6, 0, 1), BAD);
        due("39 no shelf", x.element(-1, 0), NO_LONG);
    }

    private static void promise40() {
        SwitchboardHeart x = new SwitchboardHeart();
        bytes(x, 0, 1, 2, 3, 4, 5);
        due("40 up", x.shift(0, 0, 0, 1, 4), 4);
        int[] up = {1, 1, 2, 3, 4};
        for (int i = 0; i < 5; i++) {
            due("40 as they all were before", x.element(0, i), up[i]);
        }
        due("40 down", x.shift(0, 2, 0, 0, 3), 3);
        int[] down = {2, 3, 4, 3, 4};
        for (int i = 0; i < 5; i++) {
            due("40 as they all were before", x.element(0, i), down[i]);
        }
        due("40 nothing there", x.shift(0, 0, 1, 0, 0), -11);
        due("40 nothing there", x.shift(1, 0, 0, 0, 0), -11);
        x.body(0);
        x.keep(1, 0);
        due("40 a body", x.shift(0, 0, 1, 0, 0), -12);
        due("40 a body", x.shift(1, 0, 0, 0, 0), -12);
        due("40 two bodies", x.shift(1, 0, 1, 0, 0), -12);
        due("40 -11 ahead of -12", x.shift(1, 0, 2, 0, 0), -11);
        x.row(1, 1, 5);
        due("40 unlike sorts", x.shift(0, 0, 1, 0, 0), -12);
        due("40 -12 ahead of -13", x.shift(0, 9, 1, 0, -1), -12);
        x.row(1, 0, 2);
        due("40 another one", x.shift(0, 1, 1, 0, 2), 2);
        due("40 another one", x.element(1, 1), 4);
        due("40 too many there", x.shift(0, 0, 1, 0, 3), -13);
        due("40 too many here", x.shift(1, 0, 0, 0, 3), -13);
        due("40 n below 0", x.shift(0, 0, 1, 0, -1), -13);
        due("40 i below 0", x.shift(0, -1, 1, 0, 1), -13);
        due("40 j below 0", x.shift(0, 0, 1, -1, 1), -13);
        due("40 none, at the end", x.shift(0, 5, 1, 2, 0), 0);
        due("40 none, behind the end", x.shift(0, 6, 1, 2, 0), -13);
        due("40 none, behind the end", x.shift(0, 5, 1, 3, 0), -13);
        due("40 wild", x.shift(0, MOST, 1, 0, 2), -13);
        due("40 wild", x.shift(0, 1, 1, 0, MOST), -13);
        due("40 wild", x.shift(0, 1, 1, 0, LEAST), -13);
        due("40 no shelf", x.shift(6, 0, 1, 0, 1), BAD);
        due("40 no shelf", x.shift(0, 0, -1, 0, 1), BAD);
        due("40 bad ahead of -11", x.shift(3, 0, 6, 0, 1), BAD);
    }

    private static void promise42() {
        SwitchboardHeart x = town(1, 2, 3);
        x.putIn(1);
        x.feed(1);
        x.feed(2);
        x.mend(0, 0, 5);
        x.body(0);
        x.body(5);
        x.act(1, 3, 0);
        int[] want = {3, 1, 2, 1, 2, 10};
        for (int what = 0; what < 6; what++) {
            due("42 what " + what, x.count(what), want[what]);
        }
        due("42 what 6", x.count(6), BAD);
        due("42 what -1", x.count(-1), BAD);
        due("42 what wild", x.count(LEAST), BAD);
    }
}
