import java.util.Arrays;

/**
 * A small town's switchboard: lines that are warm by being put through, a law told as a text,
 * hours in thought and in deed. Nothing is made after the constructor has ended: every call works
 * in rows that the object has had from the start.
 */
public final class SwitchboardHeart {
    public static final int BAD = -1, NOT = -2, FULL = -3, STATE = -5, VOID = -2000000000;

    private static final int NOTHING_THERE = -11, OTHER_KIND = -12, NO_PLACE = -13, SIZE_BELOW_0 = -14;
    private static final int FAULT_FROM = -100;
    private static final int MOST_LINES = 8, MOST_WARM = 99, MOST_CORDS = 4, NOBODY = -1;
    private static final int MOST_HOURS = 60, MOST_WINTERS = 20, MOST_AHEAD = 99;
    private static final int MOST_SHELVES = 6;

    private final Town town;
    private final Law text;
    private final Passing passing;
    private final Thought thought;
    private final Ways ways;
    private final Odds odds;
    private final Deeds deeds;
    private final Changes changes;
    private final Bodies bodies;
    private final Shelf[] shelves;

    public SwitchboardHeart() {
        town = new Town();
        text = new Law(town);
        passing = new Passing(town, text);
        thought = new Thought(town, passing);
        ways = new Ways(town, passing);
        odds = new Odds(town, passing);
        deeds = new Deeds(town, passing);
        changes = new Changes(town);
        bodies = new Bodies();
        shelves = new Shelf[MOST_SHELVES];
        for (int i = 0; i < MOST_SHELVES; i++) {
            shelves[i] = new Shelf();
        }
    }

    // ---- lines

    public int line(int warm) {
        if (!town.mayBe(Town.WARM, warm)) {
            return BAD;
        }
        if (!town.join(warm, Town.FIRST_NEEDS, 0)) {
            return FULL;
        }
        return town.size - 1;
    }

    public int lines(int shelf, int i, int n) {
        if (!isShelf(shelf) || n < 1 || n > MOST_LINES) {
            return BAD;
        }
        Shelf from = shelves[shelf];
        if (from.isEmpty()) {
            return 0;
        }
        if (!from.isBytes()) {
            return OTHER_KIND;
        }
        return i < 0 ? 0 : linesFrom(from, i, n);
    }

    private int linesFrom(Shelf from, int place, int n) {
        int at = place;
        for (int came = 0; came < n; came++) {
            if (!from.hasThree(at)) {
                return came;
            }
            if (!town.join(from.byteAt(at), from.byteAt(at + 1), from.byteAt(at + 2))) {
                return came;
            }
            at += 3;
        }
        return n;
    }

    public int mend(int number, int what, int v) {
        if (!town.isNumber(number, what) || !town.mayBe(what, v)) {
            return VOID;
        }
        int was = town.told(number, what);
        if (was != v) {
            town.tell(number, what, v);
            changes.note(number, what, was, v);
        }
        return was;
    }

    public int of(int number, int what) {
        if (what == 6) {
            return town.isLine(number) ? deeds.partner(number) : VOID;
        }
        if (what == 7) {
            return town.isLine(number) ? deeds.plugs.hours[number] : VOID;
        }
        return town.isNumber(number, what) ? town.told(number, what) : VOID;
    }

    public int feed(int letter) {
        if (letter < 0 || letter > 255) {
            return BAD;
        }
        return text.take(letter) ? text.fed : FULL;
    }

    public int law() {
        int fault = text.become();
        return fault < 0 ? 1 : FAULT_FROM - fault;
    }

    public int warmer(int ab, int h) {
        if (!town.isPair(ab) || h < 0 || h > MOST_AHEAD) {
            return VOID;
        }
        return text.rise(ab / 10, ab % 10, h, town.warm);
    }

    // ---- a day in thought

    public int later(int shelf, int n, int one) {
        int refusal = refusalOfDay(shelf, isHours(n) && town.isLine(one));
        if (refusal != 0) {
            return refusal;
        }
        thought.spend(shelves[shelf], n);
        return thought.warm[one];
    }

    public int have(int shelf, int n, int what) {
        int refusal = refusalOfDay(shelf, isHours(n) && isEither(what));
        if (refusal != 0) {
            return refusal;
        }
        thought.spend(shelves[shelf], n);
        return what == 0 ? town.content(thought.warm) : thought.unlawful;
    }

    public int through(int shelf, int n, int ab) {
        int refusal = refusalOfDay(shelf, isHours(n) && town.isPair(ab));
        if (refusal != 0) {
            return refusal;
        }
        thought.spend(shelves[shelf], n);
        return thought.plugs.hoursOf(ab / 10, ab % 10);
    }

    public int idle(int shelf, int n, int one) {
        int refusal = refusalOfDay(shelf, isHours(n) && town.isLine(one));
        if (refusal != 0) {
            return refusal;
        }
        thought.spend(shelves[shelf], n);
        return thought.waits[one];
    }

    public int news(int shelf, int n, int one, int other) {
        boolean asSaid = isHours(n) && town.isLine(one) && (other == -1 || town.isLine(other));
        int refusal = refusalOfDay(shelf, asSaid);
        if (refusal != 0) {
            return refusal;
        }
        if (other == -1) {
            return thought.knowers(shelves[shelf], n, one, NOBODY);
        }
        return thought.hearsIn(shelves[shelf], one, other);
    }

    public int best(int what, int k) {
        if (!isEither(what) || k < -1) {
            return BAD;
        }
        ways.seek(what == 0 ? Ways.BY_WARM : Ways.BY_NEEDS, null);
        return k == -1 ? ways.most : ways.pairOfFirst(k);
    }

    public int stable(int k) {
        if (k < -1) {
            return BAD;
        }
        ways.seek(Ways.BY_LIKES, null);
        return k == -1 ? ways.found : ways.pairOfFirst(k);
    }

    public int soon(int ab) {
        return town.isPair(ab) ? thought.soonBoth(ab / 10, ab % 10) : BAD;
    }

    public int instead(int ab) {
        return town.isPair(ab) ? town.likedMost(ab / 10, ab % 10) : BAD;
    }

    // ---- read back, cut

    public int which(int shelf, int k) {
        int refusal = refusalOfDay(shelf, k >= -1);
        if (refusal != 0) {
            return refusal;
        }
        ways.seek(Ways.BY_TOLD, shelves[shelf]);
        return k == -1 ? ways.found : ways.pairOfFirst(k);
    }

    public int sure(int shelf) {
        int refusal = refusalOfDay(shelf, true);
        if (refusal != 0) {
            return refusal;
        }
        ways.seek(Ways.BY_TOLD, shelves[shelf]);
        return ways.alwaysThrough();
    }

    public int lamp(int shelf) {
        int refusal = refusalOfDay(shelf, true);
        if (refusal != 0) {
            return refusal;
        }
        ways.seek(Ways.BY_TOLD, shelves[shelf]);
        return ways.partsBest();
    }

    public int cut(int shelf, int n, int ab) {
        int refusal = refusalOfDay(shelf, isHours(n) && town.isPair(ab));
        if (refusal != 0) {
            return refusal;
        }
        return thought.keepers(shelves[shelf], n, ab / 10, ab % 10);
    }

    public int first() {
        int least = NOT;
        int most = 0;
        for (int one = 0; one < town.size; one++) {
            int lack = town.needs[one] - town.warm[one];
            if (lack > most) {
                most = lack;
                least = one;
            }
        }
        return least;
    }

    public long nieces(int shelf, int skill, int v, int part) {
        boolean asSaid = skill >= 0 && skill <= Odds.TWELVE && isEither(part);
        if (refusalOfDay(shelf, asSaid) != 0) {
            return Long.MIN_VALUE;
        }
        odds.weigh(shelves[shelf], skill, v);
        return part == 0 ? odds.above : odds.below;
    }

    public int drawn(int seed, int nm, int what) {
        int winters = nm / 100;
        int hours = nm % 100;
        if (!isEither(what) || winters < 1 || winters > MOST_WINTERS || hours < 1 || hours > MOST_HOURS) {
            return BAD;
        }
        int content = thought.draw(seed, winters, hours);
        return what == 0 ? content : thought.unlawful;
    }

    // ---- in deed

    public int putIn(int ab) {
        if (!town.isPair(ab)) {
            return BAD;
        }
        return deeds.join(ab / 10, ab % 10) ? deeds.plugs.in : STATE;
    }

    public int pull(int ab) {
        if (!town.isPair(ab)) {
            return BAD;
        }
        return deeds.part(ab / 10, ab % 10);
    }

    public int hour() {
        deeds.live();
        return town.content(town.warm);
    }

    public int led(int what) {
        if (what == 4) {
            return deeds.plugs.bits();
        }
        return what >= 0 && what < 4 ? deeds.book[what] : BAD;
    }

    public int image() {
        deeds.picture();
        return deeds.book[Deeds.HOURS];
    }

    public int back() {
        return deeds.layBack() ? deeds.book[Deeds.HOURS] : STATE;
    }

    public int undo() {
        return changes.takeBack() ? changes.done : STATE;
    }

    public int redo() {
        return changes.doAgain() ? changes.all - changes.done : STATE;
    }

    // ---- acts, shelves

    public int body(int kind) {
        if (!Bodies.isKind(kind)) {
            return BAD;
        }
        return bodies.add(kind) ? bodies.size - 1 : FULL;
    }

    public int act(int body, int act, int x) {
        return bodies.perform(body, act, x);
    }

    public int trace(int i) {
        return i >= 0 && i < bodies.kept() ? bodies.trace[i] : BAD;
    }

    public int keep(int shelf, int body) {
        if (!isShelf(shelf) || (body != -1 && !bodies.isBody(body))) {
            return BAD;
        }
        shelves[shelf].holdBody(body);
        return 1;
    }

    public int row(int shelf, int sort, int n) {
        if (!isShelf(shelf) || !Shelf.isSort(sort) || n > Shelf.MOST) {
            return BAD;
        }
        if (n < 0) {
            return SIZE_BELOW_0;
        }
        shelves[shelf].holdRow(sort, n);
        return 1;
    }

    public int put(int shelf, int i, long v) {
        int refusal = refusalOfPlace(shelf, i);
        if (refusal != 0) {
            return refusal;
        }
        shelves[shelf].become(i, v);
        return 1;
    }

    public long element(int shelf, int i) {
        return refusalOfPlace(shelf, i) == 0 ? shelves[shelf].cells[i] : Long.MIN_VALUE;
    }

    public int shift(int shelf, int i, int other, int j, int n) {
        if (!isShelf(shelf) || !isShelf(other)) {
            return BAD;
        }
        Shelf from = shelves[shelf];
        Shelf to = shelves[other];
        if (from.isEmpty() || to.isEmpty()) {
            return NOTHING_THERE;
        }
        if (!from.isRow() || !to.isRow() || from.sort != to.sort) {
            return OTHER_KIND;
        }
        if (!from.hasRun(i, n) || !to.hasRun(j, n)) {
            return NO_PLACE;
        }
        System.arraycopy(from.cells, i, to.cells, j, n);
        return n;
    }

    public int taken(int shelf, int k) {
        if (!isShelf(shelf) || !Bodies.isKind(k)) {
            return BAD;
        }
        Shelf from = shelves[shelf];
        if (from.isEmpty()) {
            return NOTHING_THERE;
        }
        if (from.isRow() || !bodies.isUnder(from.body, k)) {
            return OTHER_KIND;
        }
        return bodies.kinds[from.body];
    }

    public int count(int what) {
        switch (what) {
            case 0: return town.size;
            case 1: return deeds.plugs.in;
            case 2: return text.fed;
            case 3: return changes.done;
            case 4: return bodies.size;
            case 5: return bodies.ran;
            default: return BAD;
        }
    }

    // ---- what may be asked

    private static boolean isHours(int n) {
        return n >= 0 && n <= MOST_HOURS;
    }

    private static boolean isEither(int what) {
        return what == 0 || what == 1;
    }

    private static boolean isShelf(int shelf) {
        return shelf >= 0 && shelf < MOST_SHELVES;
    }

    /** 0 if the call is as said and the shelf holds a row of bytes; else what is answered. */
    private int refusalOfDay(int shelf, boolean asSaid) {
        if (!asSaid || !isShelf(shelf)) {
            return BAD;
        }
        if (shelves[shelf].isEmpty()) {
            return NOTHING_THERE;
        }
        return shelves[shelf].isBytes() ? 0 : OTHER_KIND;
    }

    /** 0 if the shelf holds a row that has the place; else what is answered. */
    private int refusalOfPlace(int shelf, int i) {
        if (!isShelf(shelf)) {
            return BAD;
        }
        if (shelves[shelf].isEmpty()) {
            return NOTHING_THERE;
        }
        if (!shelves[shelf].isRow()) {
            return OTHER_KIND;
        }
        return shelves[shelf].hasRun(i, 1) ? 0 : NO_PLACE;
    }

    /** The lines and all numbers that mend() may tell anew. */
    private static final class Town {
        static final int WARM = 0, NEEDS = 1, PARTY = 2, LIKES = 3, CORDS = 4, COLD = 5;
        static final int FIRST_NEEDS = 30;

        final int[] warm = new int[MOST_LINES];
        final int[] needs = new int[MOST_LINES];
        final int[] party = new int[MOST_LINES];
        final int[] likes = new int[MOST_LINES * MOST_LINES];
        int size = 0;
        int cords = 2;
        int cold = 2;

        boolean isLine(int one) {
            return one >= 0 && one < size;
        }

        boolean areTwo(int one, int other) {
            return isLine(one) && isLine(other) && one != other;
        }

        boolean isPair(int ab) {
            return ab >= 0 && areTwo(ab / 10, ab % 10);
        }

        /** A line comes; false if one of its numbers is not as it may be, or there is no room. */
        boolean join(int itsWarm, int itsNeeds, int itsParty) {
            if (size >= MOST_LINES || !mayBe(WARM, itsWarm) || !mayBe(NEEDS, itsNeeds) || !mayBe(PARTY, itsParty)) {
                return false;
            }
            warm[size] = itsWarm;
            needs[size] = itsNeeds;
            party[size] = itsParty;
            size++;
            return true;
        }

        boolean isNumber(int number, int what) {
            switch (what) {
                case WARM:
                case NEEDS:
                case PARTY: return isLine(number);
                case LIKES: return isPair(number);
                case CORDS:
                case COLD: return number == 0;
                default: return false;
            }
        }

        boolean mayBe(int what, int v) {
            switch (what) {
                case WARM:
                case NEEDS: return v >= 0 && v <= MOST_WARM;
                case PARTY: return v >= 0 && v <= 3;
                case LIKES: return v >= -9 && v <= 9;
                case CORDS: return v >= 0 && v <= MOST_CORDS;
                case COLD: return v >= 0 && v <= 9;
                default: return false;
            }
        }

        int told(int number, int what) {
            if (!isNumber(number, what)) {
                return VOID;
            }
            switch (what) {
                case WARM: return warm[number];
                case NEEDS: return needs[number];
                case PARTY: return party[number];
                case LIKES: return liking(number / 10, number % 10);
                case CORDS: return cords;
                default: return cold;
            }
        }

        void tell(int number, int what, int v) {
            if (!isNumber(number, what)) {
                return;
            }
            switch (what) {
                case WARM: warm[number] = v; break;
                case NEEDS: needs[number] = v; break;
                case PARTY: party[number] = v; break;
                case LIKES: likes[number / 10 * MOST_LINES + number % 10] = v; break;
                case CORDS: cords = v; break;
                default: cold = v; break;
            }
        }

        int liking(int one, int other) {
            return areTwo(one, other) ? likes[one * MOST_LINES + other] : 0;
        }

        /** Whom one likes most of all but itself and the dead one. */
        int likedMost(int one, int dead) {
            int liked = NOT;
            for (int other = 0; other < size; other++) {
                if (other == one || other == dead) {
                    continue;
                }
                if (liked == NOT || liking(one, other) > liking(one, liked)) {
                    liked = other;
                }
            }
            return liked;
        }

        /** Who (bits) would have NEEDS with such WARM. */
        int content(int[] warmth) {
            int bits = 0;
            for (int one = 0; one < size; one++) {
                if (warmth[one] >= needs[one]) {
                    bits |= 1 << one;
                }
            }
            return bits;
        }

        int sum(int[] warmth) {
            int all = 0;
            for (int one = 0; one < size; one++) {
                all += warmth[one];
            }
            return all;
        }
    }

    /**
     * The tape and the law. A text becomes steps for a small stack once, so that the many hours
     * of a winter do not read it again. A step is a number, or a sign's negative.
     */
    private static final class Law {
        static final int MOST_TAPE = 120, MOST_OPEN = 6, MOST_DIGITS = 4, MOST_STEPS = 256;
        static final int WITHOUT_TEXT = 5, MOST_RISE = 20, LOOSEST = 0, TIGHTEST = 5;
        /** Which level of the grammar holds only one sign between two parts. */
        static final int COMPARES = 2;
        /** The sign that stands in the steps for a - ahead of an operand. */
        static final int LESS = '~';

        final Town town;
        final int[] tape = new int[MOST_TAPE];
        final int[] stack = new int[MOST_TAPE];
        int[] steps = new int[MOST_STEPS];
        int[] draft = new int[MOST_STEPS];
        int fed = 0;
        int length = 0;
        int drafted = 0;
        int at = 0;
        int likes = 0;
        int warmOne = 0;
        int warmOther = 0;
        int ahead = 0;
        int sameParty = 0;

        Law(Town town) {
            this.town = town;
        }

        boolean take(int letter) {
            if (fed >= MOST_TAPE) {
                return false;
            }
            tape[fed] = letter;
            fed++;
            return true;
        }

        /** The tape becomes the law: -1; else its fault, and the law is as before. */
        int become() {
            at = 0;
            drafted = 0;
            boolean whole = readText();
            int fault = at;
            fed = 0;
            if (!whole) {
                return fault;
            }
            int[] old = steps;
            steps = draft;
            draft = old;
            length = drafted;
            return -1;
        }

        private int sign() {
            return at >= 0 && at < fed && at < MOST_TAPE ? tape[at] : -1;
        }

        private boolean readText() {
            for (int line = 0; line <= MOST_TAPE; line++) {
                if (!readLine()) {
                    return false;
                }
                if (at >= fed) {
                    return true;
                }
                if (sign() != ';') {
                    return false;
                }
                at++;
            }
            return false;
        }

        private boolean readLine() {
            if (!readLevel(LOOSEST, 0)) {
                return false;
            }
            if (sign() != '?') {
                write(-';');
                return true;
            }
            at++;
            write(-'?');
            int hole = drafted;
            write(0);
            if (!readLevel(LOOSEST, 0)) {
                return false;
            }
            write(-';');
            if (hole < MOST_STEPS) {
                draft[hole] = drafted;
            }
            return true;
        }

        /** E, A, B, S, P are levels 0 to 4, each made of parts of the next level; open is the depth. */
        private boolean readLevel(int level, int open) {
            if (level >= TIGHTEST) {
                return readOperand(open);
            }
            if (!readLevel(level + 1, open)) {
                return false;
            }
            while (at < fed && levelOf(sign()) == level) {
                int between = sign();
                at++;
                if (!readLevel(level + 1, open)) {
                    return false;
                }
                write(-between);
                if (level == COMPARES) {
                    break;
                }
            }
            return true;
        }

        private static int levelOf(int sign) {
            switch (sign) {
                case '|': return 0;
                case '&': return 1;
                case '<':
                case '=':
                case '>': return 2;
                case '+':
                case '-': return 3;
                case '*':
                case '/':
                case '%': return 4;
                default: return -1;
            }
        }

        private boolean readOperand(int open) {
            int sign = sign();
            if (isDigit(sign)) {
                readNumber();
                return true;
            }
            if (isName(sign)) {
                write(-sign);
                at++;
                return true;
            }
            if ((sign != '(' && sign != '!' && sign != '-') || open >= MOST_OPEN) {
                return false;
            }
            at++;
            return sign == '(' ? readInside(open + 1) : readSigned(sign, open + 1);
        }

        private boolean readInside(int open) {
            if (!readLevel(LOOSEST, open) || sign() != ')') {
                return false;
            }
            at++;
            return true;
        }

        private boolean readSigned(int sign, int open) {
            if (!readOperand(open)) {
                return false;
            }
            write(sign == '-' ? -LESS : -sign);
            return true;
        }

        private void readNumber() {
            int number = 0;
            for (int digits = 0; digits < MOST_DIGITS && isDigit(sign()); digits++) {
                number = number * 10 + sign() - '0';
                at++;
            }
            write(number);
        }

        private static boolean isDigit(int sign) {
            return sign >= '0' && sign <= '9';
        }

        private static boolean isName(int sign) {
            return sign == 'l' || sign == 'w' || sign == 'o' || sign == 'h' || sign == 'c' || sign == 'p';
        }

        private void write(int step) {
            if (drafted < MOST_STEPS) {
                draft[drafted] = step;
                drafted++;
            }
        }

        /** By how much one is warmer by another one, through for so many hours ahead. */
        int rise(int one, int other, int hours, int[] warm) {
            if (!town.areTwo(one, other)) {
                return 0;
            }
            likes = town.likes[one * MOST_LINES + other];
            if (length == 0) {
                return likes + WITHOUT_TEXT;
            }
            warmOne = warm[one];
            warmOther = warm[other];
            ahead = hours;
            sameParty = town.party[one] != 0 && town.party[one] == town.party[other] ? 1 : 0;
            return Math.max(-MOST_RISE, Math.min(MOST_RISE, run()));
        }

        private int run() {
            int top = 0;
            for (int step = 0; step < length && step < MOST_STEPS && top < MOST_TAPE; step++) {
                int sign = -steps[step];
                if (sign <= 0) {
                    stack[top] = -sign;
                    top++;
                } else if (sign >= 'a' && sign <= 'z') {
                    stack[top] = named(sign);
                    top++;
                } else if (top < 1) {
                    return 0;
                } else if (sign == ';') {
                    return stack[top - 1];
                } else if (sign == '?') {
                    top--;
                    step = stack[top] == 0 ? lineBehind(step) : step + 1;
                } else if (sign == '!' || sign == LESS) {
                    stack[top - 1] = sign == LESS ? -stack[top - 1] : stack[top - 1] == 0 ? 1 : 0;
                } else if (top > 1) {
                    top--;
                    stack[top - 1] = joined(stack[top - 1], sign, stack[top]);
                }
            }
            return 0;
        }

        /** The step ahead of the next line; never one that lies back, so that run() ends. */
        private int lineBehind(int step) {
            int hole = step + 1;
            return hole < MOST_STEPS ? Math.max(hole, steps[hole] - 1) : hole;
        }

        private int named(int name) {
            switch (name) {
                case 'l': return likes;
                case 'w': return warmOne;
                case 'o': return warmOther;
                case 'h': return ahead;
                case 'c': return town.cold;
                default: return sameParty;
            }
        }

        private static int joined(int left, int sign, int right) {
            switch (sign) {
                case '|': return left != 0 || right != 0 ? 1 : 0;
                case '&': return left != 0 && right != 0 ? 1 : 0;
                case '<': return left < right ? 1 : 0;
                case '=': return left == right ? 1 : 0;
                case '>': return left > right ? 1 : 0;
                case '+': return left + right;
                case '-': return left - right;
                case '*': return left * right;
                case '/': return right == 0 ? 0 : left / right;
                case '%': return right == 0 ? 0 : left % right;
                default: return 0;
            }
        }
    }

    /** Pairs that are in, and for how many hours on end. */
    private static final class Plugs {
        final int[] mate = new int[MOST_LINES];
        final int[] hours = new int[MOST_LINES];
        int in = 0;

        Plugs() {
            Arrays.fill(mate, NOBODY);
        }

        void clear() {
            Arrays.fill(mate, NOBODY);
            Arrays.fill(hours, 0);
            in = 0;
        }

        void copy(Plugs from) {
            System.arraycopy(from.mate, 0, mate, 0, MOST_LINES);
            System.arraycopy(from.hours, 0, hours, 0, MOST_LINES);
            in = from.in;
        }

        /** Whether two could be put through now, by what the town has. */
        boolean takes(Town town, int one, int other) {
            return town.areTwo(one, other) && mate[one] == NOBODY && mate[other] == NOBODY && in < town.cords;
        }

        void tie(int one, int other, int ahead) {
            mate[one] = other;
            mate[other] = one;
            hours[one] = ahead;
            hours[other] = ahead;
            in++;
        }

        void untie(int one, int other) {
            mate[one] = NOBODY;
            mate[other] = NOBODY;
            hours[one] = 0;
            hours[other] = 0;
            in--;
        }

        /** For how many hours on end two are through; 0 if they are not. */
        int hoursOf(int one, int other) {
            return mate[one] == other ? hours[one] : 0;
        }

        void age() {
            for (int one = 0; one < MOST_LINES; one++) {
                if (mate[one] != NOBODY) {
                    hours[one]++;
                }
            }
        }

        int bits() {
            int bits = 0;
            for (int one = 0; one < MOST_LINES; one++) {
                if (mate[one] != NOBODY) {
                    bits |= 1 << one;
                }
            }
            return bits;
        }
    }

    /** How an hour passes. */
    private static final class Passing {
        final Town town;
        final Law text;
        final int[] rises = new int[MOST_LINES];
        final int[] next = new int[MOST_LINES];
        final int[] newRises = new int[MOST_LINES * MOST_LINES];

        Passing(Town town, Law text) {
            this.town = town;
            this.text = text;
        }

        /** An hour passes over such WARM; by how many degrees it grew. */
        int live(int[] warm, Plugs plugs) {
            for (int one = 0; one < town.size; one++) {
                rises[one] = text.rise(one, plugs.mate[one], plugs.hours[one], warm);
            }
            settle(warm, plugs.mate);
            int grown = 0;
            for (int one = 0; one < town.size; one++) {
                grown += Math.max(0, next[one] - warm[one]);
                warm[one] = next[one];
            }
            plugs.age();
            return grown;
        }

        /** Works the law out once for all new pairs of this hour: ways ask for them again and again. */
        void foresee() {
            for (int one = 0; one < town.size; one++) {
                for (int other = 0; other < town.size; other++) {
                    newRises[one * MOST_LINES + other] = text.rise(one, other, 0, town.warm);
                }
            }
        }

        /** In next: WARM behind this hour, if these are put through now (behind foresee()). */
        void tryWay(int[] mate) {
            for (int one = 0; one < town.size; one++) {
                rises[one] = mate[one] == NOBODY ? 0 : newRises[one * MOST_LINES + mate[one]];
            }
            settle(town.warm, mate);
        }

        private void settle(int[] warm, int[] mate) {
            int parties = partiesOf(mate);
            for (int one = 0; one < town.size; one++) {
                int rise = -town.cold;
                if (mate[one] != NOBODY) {
                    rise = rises[one];
                } else if ((parties >> town.party[one] & 1) != 0) {
                    rise = 1;
                }
                next[one] = Math.max(0, Math.min(MOST_WARM, warm[one] + rise));
            }
        }

        /** The party lines (bits, 0 left out) of which one is put through. */
        private int partiesOf(int[] mate) {
            int bits = 0;
            for (int one = 0; one < town.size; one++) {
                if (mate[one] != NOBODY) {
                    bits |= 1 << town.party[one];
                }
            }
            return bits & ~1;
        }
    }

    /** Hours in thought: nothing here changes the town. */
    private static final class Thought {
        static final int DRAWN_LINES = 8;

        final Town town;
        final Passing passing;
        final Plugs plugs = new Plugs();
        final Plugs before = new Plugs();
        final int[] warm = new int[MOST_LINES];
        final int[] waits = new int[MOST_LINES];
        int unlawful = 0;
        int place = 0;

        Thought(Town town, Passing passing) {
            this.town = town;
            this.passing = passing;
        }

        private void begin() {
            System.arraycopy(town.warm, 0, warm, 0, MOST_LINES);
            Arrays.fill(waits, 0);
            plugs.clear();
            unlawful = 0;
            place = 0;
        }

        void spend(Shelf day, int hours) {
            begin();
            for (int hour = 0; hour < hours; hour++) {
                tellHour(day, NOBODY);
                countWaits();
                passing.live(warm, plugs);
            }
        }

        private void countWaits() {
            for (int one = 0; one < town.size; one++) {
                if (plugs.mate[one] == NOBODY) {
                    waits[one]++;
                }
            }
        }

        /** The plugs of the day's next hour; pairs with the one that is gone are left out. */
        private void tellHour(Shelf day, int gone) {
            clearForHour();
            while (place < day.size) {
                int pair = day.byteAt(place);
                place++;
                if (pair == -1) {
                    break;
                }
                if (!isWith(pair, gone)) {
                    ask(pair / 10, pair % 10);
                }
            }
        }

        private static boolean isWith(int pair, int gone) {
            return gone != NOBODY && (pair / 10 == gone || pair % 10 == gone);
        }

        private void clearForHour() {
            before.copy(plugs);
            plugs.clear();
        }

        private void ask(int one, int other) {
            if (plugs.takes(town, one, other)) {
                plugs.tie(one, other, before.hoursOf(one, other));
            } else {
                unlawful++;
            }
        }

        /** Who (bits) knows behind so many hours what one knows, if another one were gone. */
        int knowers(Shelf day, int hours, int one, int gone) {
            begin();
            int known = 1 << one;
            for (int hour = 0; hour < hours; hour++) {
                tellHour(day, gone);
                known = spread(known, gone);
            }
            return known;
        }

        /** The first hour behind which another one knows it. */
        int hearsIn(Shelf day, int one, int other) {
            begin();
            int known = 1 << one;
            for (int hour = 0; hour < MOST_HOURS; hour++) {
                tellHour(day, NOBODY);
                known = spread(known, NOBODY);
                if ((known >> other & 1) != 0) {
                    return hour;
                }
            }
            return NOT;
        }

        private int spread(int known, int gone) {
            int heard = known;
            int parties = 0;
            for (int one = 0; one < town.size; one++) {
                int other = plugs.mate[one];
                if (other != NOBODY && ((known >> one | known >> other) & 1) != 0) {
                    heard |= 1 << one;
                    parties |= 1 << town.party[one];
                }
            }
            for (int one = 0; one < town.size; one++) {
                int party = one == gone ? 0 : town.party[one];
                if (party != 0 && (parties >> party & 1) != 0) {
                    heard |= 1 << one;
                }
            }
            return heard;
        }

        /** Which lines (bits), each gone by itself, would keep it from another one. */
        int keepers(Shelf day, int hours, int one, int other) {
            if ((knowers(day, hours, one, NOBODY) >> other & 1) == 0) {
                return 0;
            }
            int bits = 0;
            for (int gone = 0; gone < town.size; gone++) {
                if (gone != one && gone != other && (knowers(day, hours, one, gone) >> other & 1) == 0) {
                    bits |= 1 << gone;
                }
            }
            return bits;
        }

        /** Behind how many hours both have NEEDS, left in alone. */
        int soonBoth(int one, int other) {
            begin();
            plugs.tie(one, other, 0);
            int both = 1 << one | 1 << other;
            for (int hour = 0; hour <= MOST_HOURS; hour++) {
                if ((town.content(warm) & both) == both) {
                    return hour;
                }
                passing.live(warm, plugs);
            }
            return NOT;
        }

        /** How many have NEEDS at the ends of all winters; unlawful counts over all of them. */
        int draw(int seed, int winters, int hours) {
            int z = seed;
            int content = 0;
            int left = 0;
            for (int winter = 0; winter < winters; winter++) {
                begin();
                for (int hour = 0; hour < hours; hour++) {
                    clearForHour();
                    for (int cord = 0; cord < town.cords; cord++) {
                        z = z * 1103515245 + 12345;
                        ask((z >>> 6) % DRAWN_LINES, (z >>> 14) % DRAWN_LINES);
                    }
                    passing.live(warm, plugs);
                }
                content += Integer.bitCount(town.content(warm));
                left += unlawful;
            }
            unlawful = left;
            return content;
        }
    }

    /** All ways of plugs of one hour, gone through in the document's order. */
    private static final class Ways {
        static final int BY_WARM = 0, BY_NEEDS = 1, BY_LIKES = 2, BY_TOLD = 3;

        final Town town;
        final Passing passing;
        final int[] mate = new int[MOST_LINES];
        final int[] firstMate = new int[MOST_LINES];
        final int[] seen = new int[MOST_LINES];
        /** How much each likes whom it has; 0 if it has none. */
        final int[] likesIts = new int[MOST_LINES];
        int aim = BY_WARM;
        Shelf told = null;
        int found = 0;
        int most = 0;

        Ways(Town town, Passing passing) {
            this.town = town;
            this.passing = passing;
        }

        void seek(int newAim, Shelf row) {
            aim = newAim;
            told = row;
            found = 0;
            most = -1;
            Arrays.fill(mate, NOBODY);
            Arrays.fill(firstMate, NOBODY);
            Arrays.fill(seen, 0);
            if (aim != BY_LIKES) {
                passing.foresee();
            }
            go(0, aim == BY_LIKES ? MOST_CORDS : town.cords);
        }

        /** From one line on; at most as deep as there are lines. */
        private void go(int one, int cords) {
            if (one >= town.size) {
                judge();
                return;
            }
            go(one + 1, cords);
            if (mate[one] != NOBODY || cords <= 0) {
                return;
            }
            for (int other = one + 1; other < town.size; other++) {
                if (mate[other] == NOBODY) {
                    mate[one] = other;
                    mate[other] = one;
                    go(one + 1, cords - 1);
                    mate[one] = NOBODY;
                    mate[other] = NOBODY;
                }
            }
        }

        private void judge() {
            if (aim == BY_LIKES) {
                if (isStable()) {
                    take();
                }
                return;
            }
            passing.tryWay(mate);
            if (aim == BY_TOLD) {
                if (isAsTold()) {
                    take();
                }
                return;
            }
            int worth = aim == BY_WARM ? town.sum(passing.next) : Integer.bitCount(town.content(passing.next));
            if (worth > most) {
                most = worth;
                System.arraycopy(mate, 0, firstMate, 0, MOST_LINES);
            }
        }

        private void take() {
            if (found == 0) {
                System.arraycopy(mate, 0, firstMate, 0, MOST_LINES);
            }
            found++;
            for (int one = 0; one < town.size; one++) {
                if (mate[one] != NOBODY) {
                    seen[one]++;
                }
            }
        }

        private boolean isStable() {
            for (int one = 0; one < town.size; one++) {
                likesIts[one] = mate[one] == NOBODY ? 0 : town.liking(one, mate[one]);
                if (likesIts[one] < 0) {
                    return false;
                }
            }
            for (int one = 0; one < town.size; one++) {
                for (int other = one + 1; other < town.size; other++) {
                    if (wouldRather(one, other) && wouldRather(other, one)) {
                        return false;
                    }
                }
            }
            return true;
        }

        private boolean wouldRather(int one, int other) {
            return town.likes[one * MOST_LINES + other] > likesIts[one];
        }

        private boolean isAsTold() {
            if (told == null) {
                return false;
            }
            for (int one = 0; one < town.size && one < told.size; one++) {
                if (passing.next[one] != told.byteAt(one)) {
                    return false;
                }
            }
            return true;
        }

        int pairOfFirst(int k) {
            int pairs = 0;
            for (int one = 0; one < town.size; one++) {
                if (firstMate[one] > one) {
                    if (pairs == k) {
                        return 10 * one + firstMate[one];
                    }
                    pairs++;
                }
            }
            return NOT;
        }

        int alwaysThrough() {
            int bits = 0;
            for (int one = 0; one < town.size; one++) {
                if (found > 0 && seen[one] == found) {
                    bits |= 1 << one;
                }
            }
            return bits;
        }

        int partsBest() {
            int best = NOT;
            int least = found;
            for (int one = 0; one < town.size && found > 0; one++) {
                int greater = Math.max(seen[one], found - seen[one]);
                if (best == NOT || greater < least) {
                    best = one;
                    least = greater;
                }
            }
            return best;
        }
    }

    /** What nieces at the board would make of a day's first hour. */
    private static final class Odds {
        static final int TWELVE = 12, MOST_PAIRS = 6;

        final Town town;
        final Passing passing;
        final Plugs plugs = new Plugs();
        final int[] pairs = new int[MOST_PAIRS];
        int told = 0;
        int skill = 0;
        int wanted = 0;
        long above = 0;
        long below = 1;

        Odds(Town town, Passing passing) {
            this.town = town;
            this.passing = passing;
        }

        void weigh(Shelf day, int itsSkill, int v) {
            skill = itsSkill;
            wanted = v;
            told = 0;
            while (told < MOST_PAIRS && told < day.size && day.byteAt(told) != -1) {
                pairs[told] = day.byteAt(told);
                told++;
            }
            above = 0;
            below = 1;
            for (int pair = 0; pair < told; pair++) {
                below *= TWELVE;
            }
            plugs.clear();
            passing.foresee();
            go(0, 1);
            reduce();
        }

        /** From one pair on, at most as deep as there are pairs; each of them makes weight twelvefold in all. */
        private void go(int pair, long weight) {
            if (weight == 0) {
                return;
            }
            if (pair >= told) {
                passing.tryWay(plugs.mate);
                if (town.sum(passing.next) >= wanted) {
                    above += weight;
                }
                return;
            }
            int one = pairs[pair] / 10;
            int other = pairs[pair] % 10;
            if (!town.isPair(pairs[pair]) || !plugs.takes(town, one, other)) {
                go(pair + 1, weight * TWELVE);
                return;
            }
            goWith(pair + 1, weight * skill, one, other);
            int slip = other + 1 < town.size ? other + 1 : 0;
            if (plugs.takes(town, one, slip)) {
                goWith(pair + 1, weight * (TWELVE - skill), one, slip);
            } else {
                go(pair + 1, weight * (TWELVE - skill));
            }
        }

        private void goWith(int pair, long weight, int one, int other) {
            plugs.tie(one, other, 0);
            go(pair, weight);
            plugs.untie(one, other);
        }

        /** above is at most 12 to the 6th, so that this ends soon. */
        private void reduce() {
            long a = below;
            long b = above;
            for (int step = 0; step < 100 && b != 0; step++) {
                long rest = a % b;
                a = b;
                b = rest;
            }
            if (a > 1) {
                above /= a;
                below /= a;
            }
        }
    }

    /** What is in, what is led, and the image of both. */
    private static final class Deeds {
        static final int HOURS = 0, PUT_IN = 1, PULLED = 2, DEGREES = 3, NUMBERS = 4;

        final Town town;
        final Passing passing;
        final Plugs plugs = new Plugs();
        final int[] book = new int[NUMBERS];
        final Plugs keptPlugs = new Plugs();
        final int[] keptBook = new int[NUMBERS];
        final int[] keptWarm = new int[MOST_LINES];
        int keptSize = 0;
        boolean hasImage = false;

        Deeds(Town town, Passing passing) {
            this.town = town;
            this.passing = passing;
        }

        int partner(int one) {
            return plugs.mate[one] == NOBODY ? NOT : plugs.mate[one];
        }

        boolean join(int one, int other) {
            if (!plugs.takes(town, one, other)) {
                return false;
            }
            plugs.tie(one, other, 0);
            book[PUT_IN]++;
            return true;
        }

        int part(int one, int other) {
            if (plugs.mate[one] != other) {
                return STATE;
            }
            int hours = plugs.hours[one];
            plugs.untie(one, other);
            book[PULLED]++;
            return hours;
        }

        void live() {
            book[DEGREES] += passing.live(town.warm, plugs);
            book[HOURS]++;
        }

        void picture() {
            keptPlugs.copy(plugs);
            System.arraycopy(book, 0, keptBook, 0, NUMBERS);
            System.arraycopy(town.warm, 0, keptWarm, 0, MOST_LINES);
            keptSize = town.size;
            hasImage = true;
        }

        boolean layBack() {
            if (!hasImage) {
                return false;
            }
            plugs.copy(keptPlugs);
            System.arraycopy(keptBook, 0, book, 0, NUMBERS);
            // lines that came since the image keep their warm
            System.arraycopy(keptWarm, 0, town.warm, 0, keptSize);
            return true;
        }
    }

    /** The changes that can be undone, and behind them those that can be done again. */
    private static final class Changes {
        static final int MOST = 40;

        final Town town;
        final int[] numbers = new int[MOST];
        final int[] whats = new int[MOST];
        final int[] olds = new int[MOST];
        final int[] news = new int[MOST];
        int done = 0;
        int all = 0;

        Changes(Town town) {
            this.town = town;
        }

        void note(int number, int what, int was, int v) {
            if (done >= MOST) {
                forgetOldest();
            }
            numbers[done] = number;
            whats[done] = what;
            olds[done] = was;
            news[done] = v;
            done++;
            all = done;
        }

        private void forgetOldest() {
            System.arraycopy(numbers, 1, numbers, 0, MOST - 1);
            System.arraycopy(whats, 1, whats, 0, MOST - 1);
            System.arraycopy(olds, 1, olds, 0, MOST - 1);
            System.arraycopy(news, 1, news, 0, MOST - 1);
            done = MOST - 1;
        }

        boolean takeBack() {
            if (done <= 0) {
                return false;
            }
            done--;
            town.tell(numbers[done], whats[done], olds[done]);
            return true;
        }

        boolean doAgain() {
            if (done >= all) {
                return false;
            }
            town.tell(numbers[done], whats[done], news[done]);
            done++;
            return true;
        }
    }

    /** Bodies of kinds, whose acts come from their own kind or from one above. */
    private static final class Bodies {
        static final int MOST = 50, MOST_TRACE = 24, MOST_DEEP = 20;
        static final int KINDS = 8, ACTS = 4, WARMS = 0, WAITS = 1, CROSSES = 2, TELLS = 3;
        private static final int[] ABOVE = {-1, 0, 0, 2, 1, 3, 0, 6};
        /** A kind's own bodies of acts, four a kind: warms, waits, crosses, tells; 0: it has none. */
        private static final int[] OWN = {
            1, 10, 11, 2,
            20, 0, 0, 0,
            0, 30, 0, 0,
            0, 41, 40, 0,
            0, 0, 0, 50,
            0, 0, 60, 61,
            70, 0, 0, 0,
            81, 80, 0, 0,
        };

        final int[] kinds = new int[MOST];
        final int[] trace = new int[MOST_TRACE];
        int size = 0;
        int ran = 0;
        int number = 0;

        static boolean isKind(int kind) {
            return kind >= 0 && kind < KINDS;
        }

        boolean isBody(int body) {
            return body >= 0 && body < size;
        }

        boolean add(int kind) {
            if (size >= MOST) {
                return false;
            }
            kinds[size] = kind;
            size++;
            return true;
        }

        boolean isUnder(int body, int above) {
            if (!isBody(body)) {
                return false;
            }
            int kind = kinds[body];
            for (int step = 0; step < KINDS && isKind(kind); step++) {
                if (kind == above) {
                    return true;
                }
                kind = ABOVE[kind];
            }
            return false;
        }

        int kept() {
            return Math.min(ran, MOST_TRACE);
        }

        int perform(int body, int act, int x) {
            ran = 0;
            if (!isBody(body) || act < 0 || act >= ACTS) {
                return 0;
            }
            number = body;
            return runFrom(kinds[body], act, x, 0);
        }

        /** The act as a kind has it, or the next kind above that has one. */
        private int runFrom(int from, int act, int x, int deep) {
            int kind = from;
            for (int step = 0; step < KINDS && isKind(kind) && deep < MOST_DEEP; step++) {
                int own = OWN[kind * ACTS + act];
                if (own != 0) {
                    note(own);
                    return run(own, ABOVE[kind], x, deep + 1);
                }
                kind = ABOVE[kind];
            }
            return 0;
        }

        private void note(int own) {
            if (ran < MOST_TRACE) {
                trace[ran] = own;
            }
            ran++;
        }

        /** One body of an act; above is the kind above its own. */
        private int run(int own, int above, int x, int deep) {
            int kind = kinds[number];
            switch (own) {
                case 1: return x + number;
                case 2: return runFrom(kind, WAITS, x, deep) - runFrom(kind, CROSSES, 1, deep);
                case 10: return runFrom(kind, WARMS, x, deep) * 2;
                case 11: return x ^ number;
                case 20: return runFrom(above, WARMS, x, deep) + 3;
                case 30: return -runFrom(above, WAITS, x, deep);
                case 40: return runFrom(above, CROSSES, x, deep) * 3;
                case 41: return runFrom(above, WAITS, x + 1, deep);
                case 50: return runFrom(above, TELLS, x, deep) ^ 5;
                case 60: return runFrom(above, CROSSES, x, deep) - runFrom(kind, WARMS, 2, deep);
                case 61: return runFrom(above, TELLS, x, deep) + 1;
                case 70: return runFrom(above, WARMS, x, deep) * 2;
                case 80: return runFrom(above, WAITS, x, deep) + runFrom(kind, CROSSES, 2, deep);
                case 81: return runFrom(above, WARMS, x, deep) - 1;
                default: return 0;
            }
        }
    }

    /** What a shelf holds: nothing, a body, or a row, whose elements all lie in longs. */
    private static final class Shelf {
        static final int MOST = 60, BYTES = 0, SHORTS = 1, INTS = 2, LONGS = 3, BOOLEANS = 4;
        private static final int NOTHING = 0, BODY = 1, ROW = 2;

        final long[] cells = new long[MOST];
        int holds = NOTHING;
        int body = -1;
        int sort = BYTES;
        int size = 0;

        static boolean isSort(int sort) {
            return sort >= BYTES && sort <= BOOLEANS;
        }

        boolean isEmpty() {
            return holds == NOTHING;
        }

        boolean isRow() {
            return holds == ROW;
        }

        boolean isBytes() {
            return holds == ROW && sort == BYTES;
        }

        void holdBody(int newBody) {
            holds = newBody < 0 ? NOTHING : BODY;
            body = newBody;
            size = 0;
        }

        void holdRow(int newSort, int newSize) {
            holds = ROW;
            body = -1;
            sort = newSort;
            size = newSize;
            Arrays.fill(cells, 0L);
        }

        /** Whether n elements from a place on are there; no sum, lest it wrap. */
        boolean hasRun(int i, int n) {
            return i >= 0 && n >= 0 && n <= size && i <= size - n;
        }

        boolean hasThree(int i) {
            return hasRun(i, 3);
        }

        int byteAt(int i) {
            return hasRun(i, 1) ? (int) cells[i] : 0;
        }

        void become(int i, long v) {
            if (hasRun(i, 1)) {
                cells[i] = lowestBits(v);
            }
        }

        private long lowestBits(long v) {
            switch (sort) {
                case BYTES: return (byte) v;
                case SHORTS: return (short) v;
                case INTS: return (int) v;
                case LONGS: return v;
                default: return v != 0 ? 1 : 0;
            }
        }
    }
}
