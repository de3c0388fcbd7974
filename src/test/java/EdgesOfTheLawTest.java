/** The edges of the tape and of the law: Terms 1, promises 6 to 8. */
public final class EdgesOfTheLawTest extends Board {
    private static final String DIGITS = "0123456789";
    private static final String NAMES = "lwohcp";
    private static final String BEGINS = DIGITS + NAMES + "(!-";
    private static final String BETWEEN = "|&<=>+-*/%";
    private static final String BETWEEN_COMPARED = "|&+-*/%";

    private EdgesOfTheLawTest() {
    }

    public static void main(String[] args) {
        bytesOfTheTape();
        fullTape();
        emptyTape();
        faultLeavesTheLaw();
        linesOfTheLaw();
        thirtyLines();
        lineThatCounts();
        wholesAndParts();
        comparesOnce();
        digitsOfANumber();
        noBlanks();
        namesAtTheirEnds();
        hoursAhead();
        sameParty();
        sixOpen();
        sevenOpen();
        wraps();
        divisors();
        truths();
        faultWithin();
        faultAtTheEnd();
        everyByteBehind();
        heldWithinTwenty();
        withoutAText();
        hoursOfWarmer();
        Due.end();
    }

    private static String times(int n, String part) {
        return part.repeat(n);
    }

    /** What warmer() answers of 0 by 1 (no likes, WARM 10 and 20, h 0) when the law is such a text. */
    private static int gives(String text) {
        SwitchboardHeart x = town(10, 20);
        due("law() of " + text, tell(x, text), 1);
        return x.warmer(1, 0);
    }

    private static void given(String text, int want) {
        due(text, gives(text), want);
    }

    private static void fault(String text, int place) {
        SwitchboardHeart x = town(10, 20);
        tell(x, "17");
        due("law() of '" + text + "'", tell(x, text), -100 - place);
        due("the law as before", x.warmer(1, 0), 17);
        due("the tape is empty", x.count(2), 0);
    }

    private static void bytesOfTheTape() {
        sentence("A byte (0 .. 255) comes to THE TAPE: how many it has. BAD, FULL (120).");
        SwitchboardHeart x = new SwitchboardHeart();
        due("feed(0)", x.feed(0), 1);
        due("feed(255)", x.feed(255), 2);
        refusedOutside("feed(..)", 0, 255, BAD, x::feed);
        due("count(2)", x.count(2), 2);
        for (int i = 3; i <= 120; i++) {
            due("feed", x.feed('1'), i);
        }
        due("the 121st", x.feed('1'), FULL);
        due("the 121st, 0", x.feed(0), FULL);
        due("BAD ahead of FULL", x.feed(256), BAD);
        due("BAD ahead of FULL", x.feed(-1), BAD);
        due("count(2)", x.count(2), 120);
    }

    private static void fullTape() {
        sentence("THE LAW is a TEXT by THE TAPE (at most 120 bytes)");
        SwitchboardHeart x = town(10, 20);
        due("a text of 120", tell(x, times(58, "1+") + "1234"), 1);
        due("held", x.warmer(1, 0), 20);
        due("a text of 119", tell(x, times(59, "0+") + "7"), 1);
        due("7", x.warmer(1, 0), 7);
        due("119, and a fault at the last", tell(x, times(59, "0+") + "7l"), -100 - 119);
        due("7", x.warmer(1, 0), 7);
        due("120, and too early", tell(x, times(60, "0+")), -100 - 120);
        due("7", x.warmer(1, 0), 7);
        SwitchboardHeart y = town(10, 20);
        due("of 122 bytes the last two are not on it", tell(y, times(58, "0+") + "0003+9"), 1);
        due("3", y.warmer(1, 0), 3);
    }

    private static void emptyTape() {
        sentence("THE TAPE becomes THE LAW: 1; -100 less its FAULT; THE TAPE is empty then.");
        SwitchboardHeart x = town(10, 20);
        due("an empty tape", x.law(), -100);
        due("still without a text", x.warmer(1, 0), 5);
        due("one byte", tell(x, "3"), 1);
        due("the tape is empty", x.count(2), 0);
        due("law() again", x.law(), -100);
        due("the law as before", x.warmer(1, 0), 3);
        due("the next byte is the first", x.feed('4'), 1);
        due("law()", x.law(), 1);
        due("the next law", x.warmer(1, 0), 4);
    }

    private static void faultLeavesTheLaw() {
        sentence("THE TAPE is empty behind a FAULT, too, and THE LAW as before.");
        SwitchboardHeart x = town(10, 20);
        x.mend(1, 3, 2);
        due("a fault ahead of any law", tell(x, "1;1;1+"), -106);
        due("without a text still", x.warmer(1, 0), 7);
        due("empty", x.count(2), 0);
        due("the next byte is the first", x.feed('8'), 1);
        due("law()", x.law(), 1);
        due("8", x.warmer(1, 0), 8);
        due("a fault", tell(x, "3?4;5?6;7x"), -109);
        due("8 still", x.warmer(1, 0), 8);
        due("a fault at once", tell(x, "x"), -100);
        due("8 still", x.warmer(1, 0), 8);
    }

    private static void linesOfTheLaw() {
        sentence("LINES, one or more, parted by ;");
        fault("", 0);
        given("6", 6);
        given("6;7", 6);
        fault(";", 0);
        fault(";6", 0);
        fault("6;", 2);
        fault("6;;7", 2);
        fault("6?7;", 4);
        given("0?6;0?7;8;9", 8);
    }

    private static void thirtyLines() {
        sentence("LINE: E, or E ? E (what counts if the first is not 0).");
        given(times(29, "0?1;") + "1?13", 13);
        given(times(29, "0?1;") + "1234", 20);
        given(times(29, "0?1;") + "0?2", 0);
        given(times(58, "9;") + "3?4", 9);
        given("1?13", 13);
        given("-1?13", 13);
        given("0?13", 0);
        given("2-2?13;4", 4);
        fault("?1", 0);
        fault("1?", 2);
        fault("1?;", 2);
        fault("1?2?3", 3);
        fault("(1?2)", 2);
        fault("(1;2)", 2);
    }

    private static void lineThatCounts() {
        sentence("The first LINE without a first E, or whose first E is not 0, counts; none: 0.");
        given("1?5;1?6", 5);
        given("0?5;1?6", 6);
        given("0?5;0?6", 0);
        given("0?5", 0);
        given("0;6", 0);
        given("0?5;0;7", 0);
        given("0?5;7;1?8", 7);
        given("l?5", 0);
        given("l?5;w-4;9", 6);
    }

    private static void wholesAndParts() {
        sentence("E = A { | A }. A = B { & B }.");
        given("0", 0);
        given("0|0", 0);
        given("0|0|3", 1);
        given("3|0|0", 1);
        given("3&4", 1);
        given("3&4&0", 0);
        given("1|1&0", 1);
        given("0&1|1", 1);
        fault("1|", 2);
        fault("1&", 2);
        fault("|1", 0);
        fault("&1", 0);
        sentence("S = P { + P, - P }. P = O { * O, / O, % O }.");
        given("9-3-2", 4);
        given("9-3+2", 8);
        given("2+3*4", 14);
        given("2*3+4", 10);
        given("20/5*2", 8);
        given("20%7*2", 12);
        given("2*20%7", 5);
        given("19-2*20%7", 14);
        fault("1+", 2);
        fault("1*", 2);
        fault("+1", 0);
        fault("*1", 0);
    }

    private static void comparesOnce() {
        sentence("B = S, or S < S, S = S, S > S.");
        given("1<2", 1);
        given("2<2", 0);
        given("3<2", 0);
        given("1=2", 0);
        given("2=2", 1);
        given("3=2", 0);
        given("1>2", 0);
        given("2>2", 0);
        given("3>2", 1);
        given("1+1=4-2", 1);
        fault("1<2<3", 3);
        fault("1=1=1", 3);
        fault("3>2>1", 3);
        fault("1<2=1", 3);
        fault("1<2+3>1", 5);
        given("(1<2)<3", 1);
        given("3<(1<2)", 0);
        given("1<2&3>2|5=6", 1);
    }

    private static void digitsOfANumber() {
        sentence("a number (1 to 4 digits)");
        given("7", 7);
        given("12", 12);
        given("999-990", 9);
        given("9999-9990", 9);
        given("0000", 0);
        given("0007", 7);
        given("0019", 19);
        fault("12345", 4);
        fault("00000", 4);
        fault("1+12345", 6);
        fault("1?12345", 6);
        fault("(12345)", 5);
        fault("!12345", 5);
    }

    private static void noBlanks() {
        sentence("No blanks.");
        fault(" 1", 0);
        fault("1 ", 1);
        fault("1 +1", 1);
        fault("1+ 1", 2);
        fault("1\n", 1);
        fault("1\t", 1);
        fault("12 34", 2);
    }

    /** What a name gives less a number, of one with such a WARM, by another one with such a WARM. */
    private static int named(String text, int warm, int other, int h) {
        SwitchboardHeart x = town(warm, other);
        tell(x, text);
        return x.warmer(1, h);
    }

    private static void namesAtTheirEnds() {
        sentence("l LIKES of one for the one it is put through to, w its WARM, o WARM of the other one");
        due("w 0", named("w", 0, 50, 0), 0);
        due("w 99", named("w-90", 99, 50, 0), 9);
        due("o 0", named("o", 50, 0, 0), 0);
        due("o 99", named("o-90", 50, 99, 0), 9);
        SwitchboardHeart x = town(50, 50);
        tell(x, "l");
        due("l 0", x.warmer(1, 0), 0);
        x.mend(1, 3, 9);
        x.mend(10, 3, -9);
        due("l 9", x.warmer(1, 0), 9);
        due("l -9", x.warmer(10, 0), -9);
        sentence("c COLD");
        tell(x, "c");
        due("c at first", x.warmer(1, 0), 2);
        x.mend(0, 5, 0);
        due("c 0", x.warmer(1, 0), 0);
        x.mend(0, 5, 9);
        due("c 9", x.warmer(1, 0), 9);
    }

    private static void hoursAhead() {
        sentence("h for how many hours ahead these two have been through on end (in thought, too)");
        due("h 0", named("h", 50, 50, 0), 0);
        due("h 1", named("h", 50, 50, 1), 1);
        due("h 99", named("h-90", 50, 50, 99), 9);
        SwitchboardHeart x = town(0, 0);
        tell(x, "h=100?9;0");
        x.putIn(1);
        for (int i = 0; i < 100; i++) {
            x.hour();
        }
        due("in deed, behind 100 hours", x.of(0, 0), 0);
        x.hour();
        due("in deed, behind 101", x.of(0, 0), 9);
        due("hours", x.of(0, 7), 101);
        tell(x, "h=0?9;0");
        bytes(x, 0, 1, -1, 10, -1, -1, 1);
        due("in thought, the first hour", x.later(0, 1, 0), 18);
        due("in thought, the second hour", x.later(0, 2, 0), 18);
        due("in thought, one without", x.later(0, 3, 0), 16);
        due("in thought, begun again", x.later(0, 4, 0), 25);
    }

    private static void sameParty() {
        sentence("p 1 if both are on the same PARTY line (not 0), else 0.");
        SwitchboardHeart x = town(50, 50);
        tell(x, "p");
        for (int one = 0; one < 4; one++) {
            for (int other = 0; other < 4; other++) {
                x.mend(0, 2, one);
                x.mend(1, 2, other);
                due("parties " + one + " and " + other, x.warmer(1, 0), one == other && one != 0 ? 1 : 0);
            }
        }
    }

    private static void sixOpen() {
        sentence("At most 6 of ( ! - ahead of an O are open at once.");
        given("((((((7))))))", 7);
        given("!!!!!!7", 1);
        given("------7", 7);
        given("-----7", -7);
        given("(!(-(!7)))", 1);
        given("!(-(!(7)))", 1);
        given("((((((7))))))+((((((8))))))", 15);
        given("((((((7)-8)))))", -1);
        given("------7+------8", 15);
        given("!!!!!!7*((((((8))))))", 8);
        given("(((((-7--8)))))", 1);
        given("((((((7)+-8)))))", -1);
        given("(((((7-8-9-8-9)))))+30", 3);
        given("((((((9-1-1-1))))))", 6);
        given("((((((1))))))?------7", 7);
        given("((((((0))))))?1;------7", 7);
    }

    private static void sevenOpen() {
        sentence("At most 6 of ( ! - ahead of an O are open at once.");
        fault("(((((((7)))))))", 6);
        fault("!!!!!!!7", 6);
        fault("-------7", 6);
        fault("(!-(!-(7))))", 6);
        fault("(!-(!-!7))", 6);
        fault("!(-(!(-7)))", 6);
        fault("(!-(!--7))", 6);
        fault("((((((7+-8))))))", 8);
        fault("((((((7+!8))))))", 8);
        fault("((((((7+(8)))))))", 8);
        fault("1+(((((((7)))))))", 8);
        fault("1?!!!!!!!7", 8);
        fault("1;-------7", 8);
        fault("((((((7))))))+(((((((8)))))))", 20);
        fault("(((((((", 6);
    }

    private static void wraps() {
        sentence("Ints that wrap");
        given("256*256*256*128", -20);
        given("256*256*256*128-1", 20);
        given("256*256*256*128-1+1", -20);
        given("-(256*256*256*128)", -20);
        given("256*256*256*256", 0);
        given("256*256*256*256+3", 3);
        given("256*256*256*256?1;4", 4);
        given("!(256*256*256*256)", 1);
        given("256*256*256*128=-(256*256*256*128)", 1);
        given("256*256*256*128<0", 1);
        given("256*256*256*128-1>256*256*256*128", 1);
        given("9999*9999*21", 20);
        given("9999*9999*22", -20);
        given("-9999*9999*22", 20);
    }

    private static void divisors() {
        sentence("/ and % toward 0, by 0 they give 0");
        given("7/2", 3);
        given("-7/2", -3);
        given("7/-2", -3);
        given("-7/-2", 3);
        given("1/2", 0);
        given("-1/2", 0);
        given("7%2", 1);
        given("-7%2", -1);
        given("7%-2", 1);
        given("-7%-2", -1);
        given("7/1", 7);
        given("7%1", 0);
        given("7/0", 0);
        given("-7/0", 0);
        given("0/0", 0);
        given("7%0", 0);
        given("-7%0", 0);
        given("0%0", 0);
        given("7/(2-2)", 0);
        given("7%l", 0);
        given("7/l+3", 3);
        given("7/0*5+2", 2);
        given("256*256*256*128/-1", -20);
        given("256*256*256*128%-1", 0);
    }

    private static void truths() {
        sentence("| & < = > ! give 1, 0; all is worked out.");
        given("7|9", 1);
        given("-7|0", 1);
        given("7&9", 1);
        given("-7&-9", 1);
        given("7&0", 0);
        given("0&9", 0);
        given("-1&9", 1);
        given("9&-1", 1);
        given("0|-1", 1);
        given("-1|0", 1);
        given("!7", 0);
        given("!-7", 0);
        given("!0", 1);
        given("!!7", 1);
        given("-!0", -1);
        given("(7|9)+(7&9)+(1<2)+(2=2)+(2>1)+!0", 6);
        given("(0|0)+(7&0)+(2<1)+(2=1)+(1>2)+!1", 0);
        given("1|7/0", 1);
        given("0&7/0", 0);
    }

    private static void faultWithin() {
        sentence("FAULT: the place (from 0) of the first byte with which no TEXT goes on");
        fault("x", 0);
        fault(")", 0);
        fault("L", 0);
        fault("l)", 1);
        fault("lw", 1);
        fault("l1", 1);
        fault("1l", 1);
        fault("l(", 1);
        fault("1(", 1);
        fault("l!", 1);
        fault("()", 1);
        fault("(l)l", 3);
        fault("(l)(l)", 3);
        fault("(l))", 3);
        fault("l<>w", 2);
        fault("l<=w", 2);
        fault("l==w", 2);
        fault("l&&w", 2);
        fault("l++w", 2);
        fault("l+*w", 2);
        fault("l!=w", 1);
        fault("!=w", 1);
        fault("0?1;2?3;4?5x", 11);
        fault("x" + times(119, "1"), 0);
        fault(times(59, "1+") + "x1", 118);
        fault(times(59, "1+") + "1x", 119);
        fault("\u0000", 0);
        fault("l\u00ff", 1);
    }

    private static void faultAtTheEnd() {
        sentence("the length, if it ends too early");
        fault("", 0);
        fault("(", 1);
        fault("!", 1);
        fault("-", 1);
        fault("(l", 2);
        fault("(l+", 3);
        fault("((((((l)))))", 12);
        fault("((((((", 6);
        fault("!!!!!!", 6);
        for (int i = 0; i < BETWEEN.length(); i++) {
            fault("l" + BETWEEN.charAt(i), 2);
            fault("(l" + BETWEEN.charAt(i), 3);
        }
        fault("l?", 2);
        fault("l;", 2);
        fault("l?w;", 4);
        fault(times(60, "1+"), 120);
        fault(times(60, "1;"), 120);
        fault("1234" + times(57, "+1") + "+(", 120);
    }

    /** Behind a beginning each of the 256 bytes goes on or is the fault. */
    private static void goesOnWith(String beginning, String signs) {
        for (int b = 0; b < 256; b++) {
            SwitchboardHeart x = new SwitchboardHeart();
            for (int i = 0; i < beginning.length(); i++) {
                x.feed(beginning.charAt(i));
            }
            x.feed(b);
            int place = beginning.length();
            int want = -100 - place;
            if (signs.indexOf(b) >= 0) {
                want = isWhole(beginning + (char) b) ? 1 : -100 - place - 1;
            }
            due("law() of '" + beginning + "' and byte " + b, x.law(), want);
        }
    }

    /** Of a text without a fault within: whether it may end here. */
    private static boolean isWhole(String text) {
        int open = 0;
        for (int i = 0; i < text.length(); i++) {
            open += text.charAt(i) == '(' ? 1 : text.charAt(i) == ')' ? -1 : 0;
        }
        char last = text.charAt(text.length() - 1);
        return open == 0 && (DIGITS + NAMES + ")").indexOf(last) >= 0;
    }

    private static void everyByteBehind() {
        sentence("the first byte with which no TEXT goes on");
        goesOnWith("", BEGINS);
        String[] wantMore = {"(", "!", "-", "l|", "l&", "l<", "l=", "l>", "l+", "l-", "l*", "l/", "l%", "l?", "l;", "l?w;",
            "(((((", "!!!!!", "(-(!(", "!!!!!!l+", "((((((l)+", "((((((l))))))-"};
        for (String beginning : wantMore) {
            goesOnWith(beginning, BEGINS);
        }
        String[] noMoreOpen = {"((((((", "!!!!!!", "------", "(!-(!-", "((((((l+", "((((((l-", "(((((!l+!", "l?!!!!!!"};
        for (String beginning : noMoreOpen) {
            goesOnWith(beginning, DIGITS + NAMES);
        }
        String[] mayEnd = {"l", "w", "o", "h", "c", "p", "1234", "(l)", "!l", "-l", "l+w", "l*w", "l|w", "l&w", "l<w|o", "l<w&o",
            "(l<w)", "!(l<w)", "l;w", "l?w;o"};
        for (String beginning : mayEnd) {
            goesOnWith(beginning, BETWEEN + "?;");
        }
        goesOnWith("1", DIGITS + BETWEEN + "?;");
        goesOnWith("123", DIGITS + BETWEEN + "?;");
        goesOnWith("l?1", DIGITS + BETWEEN + ";");
        goesOnWith("l?1234", BETWEEN + ";");
        goesOnWith("l?w", BETWEEN + ";");
        goesOnWith("l?(w)", BETWEEN + ";");
        goesOnWith("l<w", BETWEEN_COMPARED + "?;");
        goesOnWith("l=w+o", BETWEEN_COMPARED + "?;");
        goesOnWith("l>w*o", BETWEEN_COMPARED + "?;");
        goesOnWith("l?o<w", BETWEEN_COMPARED + ";");
        goesOnWith("(l", BETWEEN + ")");
        goesOnWith("((l)", BETWEEN + ")");
        goesOnWith("(1234", BETWEEN + ")");
        goesOnWith("(l<w", BETWEEN_COMPARED + ")");
        goesOnWith("((((((l", BETWEEN + ")");
        goesOnWith("l?(l", BETWEEN + ")");
    }

    private static void heldWithinTwenty() {
        sentence("It gives by how much one is warmer (held within -20 .. 20).");
        given("19", 19);
        given("20", 20);
        given("21", 20);
        given("9999", 20);
        given("-19", -19);
        given("-20", -20);
        given("-21", -20);
        given("-9999", -20);
        SwitchboardHeart x = town(50, 50);
        tell(x, "9999");
        x.putIn(1);
        x.hour();
        due("WARM", x.of(0, 0), 70);
        tell(x, "-9999");
        x.hour();
        due("WARM", x.of(0, 0), 50);
        SwitchboardHeart y = town(95, 5);
        tell(y, "20");
        due("as the law gives it, though WARM is near its end", y.warmer(1, 0), 20);
        tell(y, "-20");
        due("as the law gives it, though WARM is near its end", y.warmer(10, 0), -20);
    }

    private static void withoutAText() {
        sentence("Without a text: l and 5.");
        SwitchboardHeart x = town(50, 50);
        due("l 0", x.warmer(1, 0), 5);
        x.mend(1, 3, 9);
        x.mend(10, 3, -9);
        due("l 9", x.warmer(1, 0), 14);
        due("l -9", x.warmer(10, 0), -4);
        due("whatever h", x.warmer(10, 99), -4);
        x.putIn(1);
        x.hour();
        due("in deed", x.of(0, 0), 64);
        due("in deed", x.of(1, 0), 46);
    }

    private static void hoursOfWarmer() {
        sentence("By how much one would be warmer by another one, through for h (0 .. 99) hours ahead (ab). VOID: BAD.");
        SwitchboardHeart x = townOf(8, 50);
        tell(x, "h-85");
        due("h 0", x.warmer(1, 0), -20);
        due("h 99", x.warmer(1, 99), 14);
        refusedOutside("warmer(1, ..)", 0, 99, VOID, h -> x.warmer(1, h));
        refusedPairs("warmer(.., 0)", 8, VOID, ab -> x.warmer(ab, 0));
        due("76", x.warmer(76, 90), 5);
        due("7", x.warmer(7, 90), 5);
        due("70", x.warmer(70, 90), 5);
        SwitchboardHeart y = new SwitchboardHeart();
        due("no lines", y.warmer(1, 0), VOID);
        SwitchboardHeart z = town(50);
        due("one line", z.warmer(1, 0), VOID);
    }
}
