import java.math.BigInteger;
import java.util.ArrayDeque;
import java.util.ArrayList;
import java.util.Arrays;
import java.util.Comparator;
import java.util.HashMap;
import java.util.HashSet;
import java.util.List;
import java.util.Map;
import java.util.Set;
import java.util.function.IntBinaryOperator;

/**
 * The document once more, as slowly and plainly as it reads, with the whole Java library: what the
 * class is held against in ModelTest. It shares no code and, where it can, no way of working with it.
 */
final class Model {
    static final int BAD = -1, NOT = -2, FULL = -3, STATE = -5, VOID = -2000000000;

    private static final class Line {
        int warm;
        int needs;
        int party;

        Line(int warm, int needs, int party) {
            this.warm = warm;
            this.needs = needs;
            this.party = party;
        }
    }

    private record Pair(int low, int high) {
        static Pair of(int a, int b) {
            return new Pair(Math.min(a, b), Math.max(a, b));
        }

        boolean has(int one) {
            return one == low || one == high;
        }

        int number() {
            return 10 * low + high;
        }
    }

    private record Change(int number, int what, int was, int became) {
    }

    private record Image(int[] warm, Map<Pair, Integer> in, int[] led) {
    }

    private final List<Line> town = new ArrayList<>();
    private final Map<Integer, Integer> likes = new HashMap<>();
    private int cords = 2;
    private int cold = 2;
    private StringBuilder tape = new StringBuilder();
    private String law = null;
    private Map<Pair, Integer> in = new HashMap<>();
    private int[] led = new int[4];
    private Image image = null;
    private final ArrayDeque<Change> undo = new ArrayDeque<>();
    private final ArrayDeque<Change> redo = new ArrayDeque<>();
    private final List<Plug> bodies = new ArrayList<>();
    private final Object[] shelves = new Object[6];
    private final List<Integer> ran = new ArrayList<>();

    // ---- helpers

    private boolean isLine(int one) {
        return one >= 0 && one < town.size();
    }

    private boolean isPair(int ab) {
        return ab >= 0 && isLine(ab / 10) && isLine(ab % 10) && ab / 10 != ab % 10;
    }

    private static boolean within(int v, int low, int high) {
        return low <= v && v <= high;
    }

    private int like(int a, int b) {
        return likes.getOrDefault(10 * a + b, 0);
    }

    private int[] warmNow() {
        return town.stream().mapToInt(l -> l.warm).toArray();
    }

    private int content(int[] warm) {
        int bits = 0;
        for (int i = 0; i < warm.length; i++) {
            if (warm[i] >= town.get(i).needs) {
                bits += 1 << i;
            }
        }
        return bits;
    }

    private static Pair pairOf(Iterable<Pair> pairs, int one) {
        for (Pair pair : pairs) {
            if (pair.has(one)) {
                return pair;
            }
        }
        return null;
    }

    private boolean mayJoin(Set<Pair> pairs, int a, int b) {
        return isLine(a) && isLine(b) && a != b && pairOf(pairs, a) == null && pairOf(pairs, b) == null
            && pairs.size() < cords;
    }

    private int[] afterHour(int[] warm, Map<Pair, Integer> plugs) {
        int[] next = new int[warm.length];
        for (int i = 0; i < warm.length; i++) {
            Pair pair = pairOf(plugs.keySet(), i);
            int by = -cold;
            if (pair != null) {
                by = lawOf(i, pair.low == i ? pair.high : pair.low, plugs.get(pair), warm);
            } else if (town.get(i).party != 0) {
                for (int j = 0; j < warm.length; j++) {
                    if (town.get(j).party == town.get(i).party && pairOf(plugs.keySet(), j) != null) {
                        by = 1;
                    }
                }
            }
            next[i] = Math.min(99, Math.max(0, warm[i] + by));
        }
        return next;
    }

    // ---- the law

    private int lawOf(int one, int other, int hours, int[] warm) {
        if (law == null) {
            return like(one, other) + 5;
        }
        boolean same = town.get(one).party != 0 && town.get(one).party == town.get(other).party;
        Map<Character, Integer> names = Map.of('l', like(one, other), 'w', warm[one], 'o', warm[other],
            'h', hours, 'c', cold, 'p', same ? 1 : 0);
        for (String line : law.split(";")) {
            String[] parts = line.split("\\?");
            if (parts.length == 1) {
                return Math.min(20, Math.max(-20, new Reader(parts[0], names).either()));
            }
            if (new Reader(parts[0], names).either() != 0) {
                return Math.min(20, Math.max(-20, new Reader(parts[1], names).either()));
            }
        }
        return 0;
    }

    /** Works out a text that is known to be faultless. */
    private static final class Reader {
        private final String text;
        private final Map<Character, Integer> names;
        private int at = 0;

        Reader(String text, Map<Character, Integer> names) {
            this.text = text;
            this.names = names;
        }

        private boolean next(String signs) {
            return at < text.length() && signs.indexOf(text.charAt(at)) >= 0;
        }

        int either() {
            int v = both();
            while (next("|")) {
                at++;
                int w = both();
                v = v != 0 | w != 0 ? 1 : 0;
            }
            return v;
        }

        private int both() {
            int v = compared();
            while (next("&")) {
                at++;
                int w = compared();
                v = v != 0 & w != 0 ? 1 : 0;
            }
            return v;
        }

        private int compared() {
            int v = sum();
            if (!next("<=>")) {
                return v;
            }
            char sign = text.charAt(at++);
            int w = sum();
            boolean holds = sign == '<' ? v < w : sign == '=' ? v == w : v > w;
            return holds ? 1 : 0;
        }

        private int sum() {
            int v = product();
            while (next("+-")) {
                boolean plus = text.charAt(at++) == '+';
                int w = product();
                v = plus ? v + w : v - w;
            }
            return v;
        }

        private int product() {
            int v = operand();
            while (next("*/%")) {
                char sign = text.charAt(at++);
                int w = operand();
                IntBinaryOperator by = sign == '*' ? (a, b) -> a * b
                    : sign == '/' ? (a, b) -> b == 0 ? 0 : a / b : (a, b) -> b == 0 ? 0 : a % b;
                v = by.applyAsInt(v, w);
            }
            return v;
        }

        private int operand() {
            char sign = text.charAt(at++);
            if (sign == '(') {
                int v = either();
                at++;
                return v;
            }
            if (sign == '!') {
                return operand() == 0 ? 1 : 0;
            }
            if (sign == '-') {
                return -operand();
            }
            if (names.containsKey(sign)) {
                return names.get(sign);
            }
            int from = at - 1;
            while (next("0123456789")) {
                at++;
            }
            return Integer.parseInt(text.substring(from, at));
        }
    }

    /** The fault by a machine with a stack that goes byte by byte; -1: none. */
    static int faultOf(String text) {
        ArrayDeque<Character> open = new ArrayDeque<>();
        ArrayDeque<Boolean> compared = new ArrayDeque<>();
        compared.push(false);
        boolean wanted = true;
        boolean asked = false;
        int digits = 0;
        for (int i = 0; i < text.length(); i++) {
            char c = text.charAt(i);
            boolean digit = c >= '0' && c <= '9';
            if (digits > 0 && digit) {
                if (++digits > 4) {
                    return i;
                }
                continue;
            }
            digits = 0;
            if (wanted) {
                if ("(!-".indexOf(c) >= 0) {
                    if (open.size() == 6) {
                        return i;
                    }
                    open.push(c);
                    if (c == '(') {
                        compared.push(false);
                    }
                    continue;
                }
                if (!digit && "lwohcp".indexOf(c) < 0) {
                    return i;
                }
                digits = digit ? 1 : 0;
                closeSigns(open);
                wanted = false;
                continue;
            }
            wanted = true;
            if (c == ')') {
                if (open.isEmpty()) {
                    return i;
                }
                open.pop();
                compared.pop();
                closeSigns(open);
                wanted = false;
            } else if ("|&".indexOf(c) >= 0) {
                compared.pop();
                compared.push(false);
            } else if ("<=>".indexOf(c) >= 0) {
                if (compared.pop()) {
                    return i;
                }
                compared.push(true);
            } else if (c == '?' || c == ';') {
                if (!open.isEmpty() || (c == '?' && asked)) {
                    return i;
                }
                asked = c == '?';
                compared.pop();
                compared.push(false);
            } else if ("+-*/%".indexOf(c) < 0) {
                return i;
            }
        }
        return wanted || !open.isEmpty() ? text.length() : -1;
    }

    private static void closeSigns(ArrayDeque<Character> open) {
        while (!open.isEmpty() && open.peek() != '(') {
            open.pop();
        }
    }

    // ---- lines

    int line(int warm) {
        if (!within(warm, 0, 99)) {
            return BAD;
        }
        if (town.size() == 8) {
            return FULL;
        }
        town.add(new Line(warm, 30, 0));
        return town.size() - 1;
    }

    int lines(int shelf, int i, int n) {
        if (!within(shelf, 0, 5) || !within(n, 1, 8)) {
            return BAD;
        }
        if (shelves[shelf] == null) {
            return 0;
        }
        if (!(shelves[shelf] instanceof byte[] row)) {
            return -12;
        }
        int came = 0;
        for (long at = i; i >= 0 && came < n && at + 3 <= row.length && town.size() < 8; at += 3) {
            int p = (int) at;
            if (!within(row[p], 0, 99) || !within(row[p + 1], 0, 99) || !within(row[p + 2], 0, 3)) {
                break;
            }
            town.add(new Line(row[p], row[p + 1], row[p + 2]));
            came++;
        }
        return came;
    }

    private void set(int number, int what, int v) {
        switch (what) {
            case 0 -> town.get(number).warm = v;
            case 1 -> town.get(number).needs = v;
            case 2 -> town.get(number).party = v;
            case 3 -> likes.put(number, v);
            case 4 -> cords = v;
            default -> cold = v;
        }
    }

    int mend(int number, int what, int v) {
        int was = what <= 5 ? of(number, what) : VOID;
        int[] low = {0, 0, 0, -9, 0, 0};
        int[] high = {99, 99, 3, 9, 4, 9};
        if (was == VOID || !within(v, low[what], high[what])) {
            return VOID;
        }
        if (was != v) {
            set(number, what, v);
            undo.push(new Change(number, what, was, v));
            redo.clear();
            while (undo.size() > 40) {
                undo.removeLast();
            }
        }
        return was;
    }

    int of(int number, int what) {
        boolean known = what == 3 ? isPair(number) : what == 4 || what == 5 ? number == 0 : isLine(number);
        if (!known || !within(what, 0, 7)) {
            return VOID;
        }
        Pair pair = what >= 6 ? pairOf(in.keySet(), number) : null;
        return switch (what) {
            case 0 -> town.get(number).warm;
            case 1 -> town.get(number).needs;
            case 2 -> town.get(number).party;
            case 3 -> like(number / 10, number % 10);
            case 4 -> cords;
            case 5 -> cold;
            case 6 -> pair == null ? NOT : pair.low == number ? pair.high : pair.low;
            default -> pair == null ? 0 : in.get(pair);
        };
    }

    int feed(int letter) {
        if (!within(letter, 0, 255)) {
            return BAD;
        }
        if (tape.length() == 120) {
            return FULL;
        }
        tape.append((char) letter);
        return tape.length();
    }

    int law() {
        String text = tape.toString();
        tape = new StringBuilder();
        int fault = faultOf(text);
        if (fault >= 0) {
            return -100 - fault;
        }
        law = text;
        return 1;
    }

    int warmer(int ab, int h) {
        return isPair(ab) && within(h, 0, 99) ? lawOf(ab / 10, ab % 10, h, warmNow()) : VOID;
    }

    // ---- a day in thought

    private int refusal(int shelf, boolean asSaid) {
        if (!asSaid || !within(shelf, 0, 5)) {
            return BAD;
        }
        return shelves[shelf] == null ? -11 : shelves[shelf] instanceof byte[] ? 0 : -12;
    }

    private List<List<Integer>> hoursOf(int shelf) {
        List<List<Integer>> hours = new ArrayList<>();
        List<Integer> hour = new ArrayList<>();
        for (byte b : (byte[]) shelves[shelf]) {
            if (b == -1) {
                hours.add(hour);
                hour = new ArrayList<>();
            } else {
                hour.add((int) b);
            }
        }
        hours.add(hour);
        return hours;
    }

    /** All hours of a day, one behind the other. */
    private final class Day {
        int[] warm = warmNow();
        int[] waits = new int[town.size()];
        int unlawful = 0;
        Map<Pair, Integer> plugs = new HashMap<>();

        void live(List<Integer> pairs) {
            Map<Pair, Integer> now = new HashMap<>();
            for (int ab : pairs) {
                if (ab < 0 || !mayJoin(now.keySet(), ab / 10, ab % 10)) {
                    unlawful++;
                } else {
                    Pair pair = Pair.of(ab / 10, ab % 10);
                    now.put(pair, plugs.getOrDefault(pair, 0));
                }
            }
            warm = afterHour(warm, now);
            now.replaceAll((pair, hours) -> hours + 1);
            plugs = now;
            for (int i = 0; i < waits.length; i++) {
                waits[i] += pairOf(now.keySet(), i) == null ? 1 : 0;
            }
        }
    }

    private Day dayOf(int shelf, int n) {
        List<List<Integer>> hours = hoursOf(shelf);
        Day day = new Day();
        for (int hour = 0; hour < n; hour++) {
            day.live(hour < hours.size() ? hours.get(hour) : List.of());
        }
        return day;
    }

    int later(int shelf, int n, int one) {
        int no = refusal(shelf, within(n, 0, 60) && isLine(one));
        return no != 0 ? no : dayOf(shelf, n).warm[one];
    }

    int have(int shelf, int n, int what) {
        int no = refusal(shelf, within(n, 0, 60) && within(what, 0, 1));
        return no != 0 ? no : what == 0 ? content(dayOf(shelf, n).warm) : dayOf(shelf, n).unlawful;
    }

    int through(int shelf, int n, int ab) {
        int no = refusal(shelf, within(n, 0, 60) && isPair(ab));
        return no != 0 ? no : dayOf(shelf, n).plugs.getOrDefault(Pair.of(ab / 10, ab % 10), 0);
    }

    int idle(int shelf, int n, int one) {
        int no = refusal(shelf, within(n, 0, 60) && isLine(one));
        return no != 0 ? no : dayOf(shelf, n).waits[one];
    }

    private Set<Integer> knowers(int shelf, int n, int one, int gone) {
        List<List<Integer>> hours = hoursOf(shelf);
        Set<Integer> known = new HashSet<>(Set.of(one));
        for (int hour = 0; hour < n && hour < hours.size(); hour++) {
            Set<Pair> now = new HashSet<>();
            for (int ab : hours.get(hour)) {
                if (ab >= 0 && ab / 10 != gone && ab % 10 != gone && mayJoin(now, ab / 10, ab % 10)) {
                    now.add(Pair.of(ab / 10, ab % 10));
                }
            }
            Set<Integer> heard = new HashSet<>(known);
            for (Pair pair : now) {
                if (known.contains(pair.low) || known.contains(pair.high)) {
                    for (int end : new int[] {pair.low, pair.high}) {
                        heard.add(end);
                        for (int i = 0; i < town.size(); i++) {
                            if (i != gone && town.get(i).party != 0 && town.get(i).party == town.get(end).party) {
                                heard.add(i);
                            }
                        }
                    }
                }
            }
            known = heard;
        }
        return known;
    }

    int news(int shelf, int n, int one, int other) {
        int no = refusal(shelf, within(n, 0, 60) && isLine(one) && (other == -1 || isLine(other)));
        if (no != 0) {
            return no;
        }
        if (other == -1) {
            return knowers(shelf, n, one, -1).stream().mapToInt(i -> 1 << i).sum();
        }
        for (int hour = 0; hour < 60; hour++) {
            if (knowers(shelf, hour + 1, one, -1).contains(other)) {
                return hour;
            }
        }
        return NOT;
    }

    // ---- ways

    /** All ways within so many pairs, sorted by the document's order. */
    private List<Set<Pair>> ways(int most) {
        List<Set<Pair>> all = new ArrayList<>();
        all.add(new HashSet<>());
        for (int high = town.size() - 1; high > 0; high--) {
            for (int low = 0; low < high; low++) {
                int before = all.size();
                for (int i = 0; i < before; i++) {
                    Set<Pair> way = all.get(i);
                    if (way.size() < most && pairOf(way, low) == null && pairOf(way, high) == null) {
                        Set<Pair> more = new HashSet<>(way);
                        more.add(new Pair(low, high));
                        all.add(more);
                    }
                }
            }
        }
        all.sort(Comparator.comparing(this::choices, Arrays::compare));
        return all;
    }

    private int[] choices(Set<Pair> way) {
        int[] to = new int[town.size()];
        Arrays.fill(to, -1);
        way.forEach(pair -> to[pair.low] = pair.high);
        return to;
    }

    private int[] afterWay(Set<Pair> way) {
        Map<Pair, Integer> plugs = new HashMap<>();
        way.forEach(pair -> plugs.put(pair, 0));
        return afterHour(warmNow(), plugs);
    }

    private static int kthOf(Set<Pair> way, int k) {
        int[] numbers = way.stream().mapToInt(Pair::number).sorted().toArray();
        return k < numbers.length ? numbers[k] : NOT;
    }

    int best(int what, int k) {
        if (!within(what, 0, 1) || k < -1) {
            return BAD;
        }
        int most = -1;
        Set<Pair> first = Set.of();
        for (Set<Pair> way : ways(cords)) {
            int[] warm = afterWay(way);
            int worth = what == 0 ? Arrays.stream(warm).sum() : Integer.bitCount(content(warm));
            if (worth > most) {
                most = worth;
                first = way;
            }
        }
        return k == -1 ? most : kthOf(first, k);
    }

    private int likesHers(Set<Pair> way, int one) {
        Pair pair = pairOf(way, one);
        return pair == null ? 0 : like(one, pair.low == one ? pair.high : pair.low);
    }

    private boolean isStable(Set<Pair> way) {
        for (int a = 0; a < town.size(); a++) {
            for (int b = 0; b < town.size(); b++) {
                if (a != b && like(a, b) > likesHers(way, a) && like(b, a) > likesHers(way, b)) {
                    return false;
                }
            }
            if (likesHers(way, a) < 0) {
                return false;
            }
        }
        return true;
    }

    int stable(int k) {
        if (k < -1) {
            return BAD;
        }
        List<Set<Pair>> all = ways(99).stream().filter(this::isStable).toList();
        return k == -1 ? all.size() : all.isEmpty() ? NOT : kthOf(all.get(0), k);
    }

    int soon(int ab) {
        if (!isPair(ab)) {
            return BAD;
        }
        int a = ab / 10;
        int b = ab % 10;
        int[] warm = warmNow();
        for (int hour = 0; hour <= 60; hour++) {
            if (warm[a] >= town.get(a).needs && warm[b] >= town.get(b).needs) {
                return hour;
            }
            warm = afterHour(warm, Map.of(Pair.of(a, b), hour));
        }
        return NOT;
    }

    int instead(int ab) {
        if (!isPair(ab)) {
            return BAD;
        }
        int liked = NOT;
        for (int i = town.size() - 1; i >= 0; i--) {
            if (i != ab / 10 && i != ab % 10 && (liked == NOT || like(ab / 10, i) >= like(ab / 10, liked))) {
                liked = i;
            }
        }
        return liked;
    }

    // ---- read back, cut

    private List<Set<Pair>> told(int shelf) {
        byte[] row = (byte[]) shelves[shelf];
        return ways(cords).stream().filter(way -> {
            int[] warm = afterWay(way);
            for (int i = 0; i < warm.length && i < row.length; i++) {
                if (warm[i] != row[i]) {
                    return false;
                }
            }
            return true;
        }).toList();
    }

    int which(int shelf, int k) {
        int no = refusal(shelf, k >= -1);
        if (no != 0) {
            return no;
        }
        List<Set<Pair>> all = told(shelf);
        return k == -1 ? all.size() : all.isEmpty() ? NOT : kthOf(all.get(0), k);
    }

    int sure(int shelf) {
        int no = refusal(shelf, true);
        if (no != 0) {
            return no;
        }
        List<Set<Pair>> all = told(shelf);
        int bits = 0;
        for (int i = 0; i < town.size(); i++) {
            int one = i;
            if (!all.isEmpty() && all.stream().allMatch(way -> pairOf(way, one) != null)) {
                bits |= 1 << i;
            }
        }
        return bits;
    }

    int lamp(int shelf) {
        int no = refusal(shelf, true);
        if (no != 0) {
            return no;
        }
        List<Set<Pair>> all = told(shelf);
        int best = NOT;
        long least = Long.MAX_VALUE;
        for (int i = 0; i < town.size() && !all.isEmpty(); i++) {
            int one = i;
            long through = all.stream().filter(way -> pairOf(way, one) != null).count();
            long greater = Math.max(through, all.size() - through);
            if (greater < least) {
                least = greater;
                best = i;
            }
        }
        return best;
    }

    int cut(int shelf, int n, int ab) {
        int no = refusal(shelf, within(n, 0, 60) && isPair(ab));
        if (no != 0) {
            return no;
        }
        int bits = 0;
        for (int gone = 0; gone < town.size(); gone++) {
            if (gone != ab / 10 && gone != ab % 10 && knowers(shelf, n, ab / 10, -1).contains(ab % 10)
                && !knowers(shelf, n, ab / 10, gone).contains(ab % 10)) {
                bits |= 1 << gone;
            }
        }
        return bits;
    }

    int first() {
        int best = NOT;
        for (int i = town.size() - 1; i >= 0; i--) {
            int lack = town.get(i).needs - town.get(i).warm;
            if (lack > 0 && (best == NOT || lack >= town.get(best).needs - town.get(best).warm)) {
                best = i;
            }
        }
        return best;
    }

    long nieces(int shelf, int skill, int v, int part) {
        if (refusal(shelf, within(skill, 0, 12) && within(part, 0, 1)) != 0) {
            return Long.MIN_VALUE;
        }
        List<Integer> told = hoursOf(shelf).get(0);
        told = told.subList(0, Math.min(6, told.size()));
        BigInteger good = BigInteger.ZERO;
        for (int coins = 0; coins < 1 << told.size(); coins++) {
            Set<Pair> way = new HashSet<>();
            BigInteger weight = BigInteger.ONE;
            for (int i = 0; i < told.size(); i++) {
                boolean right = (coins >> i & 1) == 0;
                weight = weight.multiply(BigInteger.valueOf(right ? skill : 12 - skill));
                int ab = told.get(i);
                if (ab < 0 || !mayJoin(way, ab / 10, ab % 10)) {
                    continue;
                }
                int other = right ? ab % 10 : (ab % 10 + 1) % town.size();
                if (other != ab / 10 && pairOf(way, other) == null) {
                    way.add(Pair.of(ab / 10, other));
                }
            }
            if (Arrays.stream(afterWay(way)).sum() >= v) {
                good = good.add(weight);
            }
        }
        BigInteger all = BigInteger.valueOf(12).pow(told.size());
        BigInteger common = good.gcd(all);
        return (part == 0 ? good : all).divide(common).longValueExact();
    }

    int drawn(int seed, int nm, int what) {
        if (nm < 0 || !within(nm / 100, 1, 20) || !within(nm % 100, 1, 60) || !within(what, 0, 1)) {
            return BAD;
        }
        int z = seed;
        int content = 0;
        int unlawful = 0;
        for (int winter = 0; winter < nm / 100; winter++) {
            Day day = new Day();
            for (int hour = 0; hour < nm % 100; hour++) {
                List<Integer> pairs = new ArrayList<>();
                for (int cord = 0; cord < cords; cord++) {
                    z = z * 1103515245 + 12345;
                    pairs.add(10 * ((z >>> 6) & 7) + ((z >>> 14) & 7));
                }
                day.live(pairs);
            }
            content += Integer.bitCount(content(day.warm));
            unlawful += day.unlawful;
        }
        return what == 0 ? content : unlawful;
    }

    // ---- in deed

    int putIn(int ab) {
        if (!isPair(ab)) {
            return BAD;
        }
        if (!mayJoin(in.keySet(), ab / 10, ab % 10)) {
            return STATE;
        }
        in.put(Pair.of(ab / 10, ab % 10), 0);
        led[1]++;
        return in.size();
    }

    int pull(int ab) {
        if (!isPair(ab)) {
            return BAD;
        }
        Integer hours = in.remove(Pair.of(ab / 10, ab % 10));
        if (hours == null) {
            return STATE;
        }
        led[2]++;
        return hours;
    }

    int hour() {
        int[] next = afterHour(warmNow(), in);
        for (int i = 0; i < next.length; i++) {
            led[3] += Math.max(0, next[i] - town.get(i).warm);
            town.get(i).warm = next[i];
        }
        in.replaceAll((pair, hours) -> hours + 1);
        led[0]++;
        return content(next);
    }

    int led(int what) {
        if (what == 4) {
            return in.keySet().stream().mapToInt(pair -> (1 << pair.low) + (1 << pair.high)).sum();
        }
        return within(what, 0, 3) ? led[what] : BAD;
    }

    int image() {
        image = new Image(warmNow(), new HashMap<>(in), led.clone());
        return led[0];
    }

    int back() {
        if (image == null) {
            return STATE;
        }
        for (int i = 0; i < image.warm.length; i++) {
            town.get(i).warm = image.warm[i];
        }
        in = new HashMap<>(image.in);
        led = image.led.clone();
        return led[0];
    }

    int undo() {
        if (undo.isEmpty()) {
            return STATE;
        }
        Change change = undo.pop();
        redo.push(change);
        set(change.number, change.what, change.was);
        return undo.size();
    }

    int redo() {
        if (redo.isEmpty()) {
            return STATE;
        }
        Change change = redo.pop();
        undo.push(change);
        set(change.number, change.what, change.became);
        return redo.size();
    }

    // ---- acts: Java's own classes are what the document tells of

    private interface Warms {
        int n();

        void ran(int body);

        default int warms(int x) {
            ran(1);
            return x + n();
        }
    }

    private interface Tells {
        void ran(int body);

        int waits(int x);

        int crosses(int x);

        default int tells(int x) {
            ran(2);
            return waits(x) - crosses(1);
        }
    }

    private static class Plug implements Warms, Tells {
        private final int n;
        private final List<Integer> trace;

        Plug(int n, List<Integer> trace) {
            this.n = n;
            this.trace = trace;
        }

        public int n() {
            return n;
        }

        public void ran(int body) {
            trace.add(body);
        }

        public int waits(int x) {
            ran(10);
            return warms(x) * 2;
        }

        public int crosses(int x) {
            ran(11);
            return x ^ n;
        }
    }

    private static class Lamp extends Plug {
        Lamp(int n, List<Integer> trace) {
            super(n, trace);
        }

        @Override public int warms(int x) {
            ran(20);
            return super.warms(x) + 3;
        }
    }

    private static class Cord extends Plug {
        Cord(int n, List<Integer> trace) {
            super(n, trace);
        }

        @Override public int waits(int x) {
            ran(30);
            return -super.waits(x);
        }
    }

    private static class Widow extends Cord {
        Widow(int n, List<Integer> trace) {
            super(n, trace);
        }

        @Override public int crosses(int x) {
            ran(40);
            return super.crosses(x) * 3;
        }

        @Override public int waits(int x) {
            ran(41);
            return super.waits(x + 1);
        }
    }

    private static class Niece extends Lamp {
        Niece(int n, List<Integer> trace) {
            super(n, trace);
        }

        @Override public int tells(int x) {
            ran(50);
            return super.tells(x) ^ 5;
        }
    }

    private static class Child extends Widow {
        Child(int n, List<Integer> trace) {
            super(n, trace);
        }

        @Override public int crosses(int x) {
            ran(60);
            return super.crosses(x) - warms(2);
        }

        @Override public int tells(int x) {
            ran(61);
            return super.tells(x) + 1;
        }
    }

    private static class Stranger extends Plug {
        Stranger(int n, List<Integer> trace) {
            super(n, trace);
        }

        @Override public int warms(int x) {
            ran(70);
            return super.warms(x) * 2;
        }
    }

    private static class Frost extends Stranger {
        Frost(int n, List<Integer> trace) {
            super(n, trace);
        }

        @Override public int waits(int x) {
            ran(80);
            return super.waits(x) + crosses(2);
        }

        @Override public int warms(int x) {
            ran(81);
            return super.warms(x) - 1;
        }
    }

    private static final List<Class<?>> KINDS = List.of(Plug.class, Lamp.class, Cord.class, Widow.class,
        Niece.class, Child.class, Stranger.class, Frost.class);

    int body(int kind) {
        if (!within(kind, 0, 7)) {
            return BAD;
        }
        int n = bodies.size();
        if (n == 50) {
            return FULL;
        }
        bodies.add(switch (kind) {
            case 0 -> new Plug(n, ran);
            case 1 -> new Lamp(n, ran);
            case 2 -> new Cord(n, ran);
            case 3 -> new Widow(n, ran);
            case 4 -> new Niece(n, ran);
            case 5 -> new Child(n, ran);
            case 6 -> new Stranger(n, ran);
            default -> new Frost(n, ran);
        });
        return n;
    }

    int act(int body, int act, int x) {
        ran.clear();
        if (!within(body, 0, bodies.size() - 1) || !within(act, 0, 3)) {
            return 0;
        }
        Plug plug = bodies.get(body);
        return switch (act) {
            case 0 -> plug.warms(x);
            case 1 -> plug.waits(x);
            case 2 -> plug.crosses(x);
            default -> plug.tells(x);
        };
    }

    int trace(int i) {
        return within(i, 0, Math.min(24, ran.size()) - 1) ? ran.get(i) : BAD;
    }

    // ---- shelves

    int keep(int shelf, int body) {
        if (!within(shelf, 0, 5) || !within(body, -1, bodies.size() - 1)) {
            return BAD;
        }
        shelves[shelf] = body == -1 ? null : bodies.get(body);
        return 1;
    }

    int row(int shelf, int sort, int n) {
        if (!within(shelf, 0, 5) || !within(sort, 0, 4) || n > 60) {
            return BAD;
        }
        if (n < 0) {
            return -14;
        }
        shelves[shelf] = switch (sort) {
            case 0 -> new byte[n];
            case 1 -> new short[n];
            case 2 -> new int[n];
            case 3 -> new long[n];
            default -> new boolean[n];
        };
        return 1;
    }

    private int placeRefusal(int shelf, int i) {
        if (!within(shelf, 0, 5)) {
            return BAD;
        }
        if (shelves[shelf] == null) {
            return -11;
        }
        if (!shelves[shelf].getClass().isArray()) {
            return -12;
        }
        return within(i, 0, java.lang.reflect.Array.getLength(shelves[shelf]) - 1) ? 0 : -13;
    }

    int put(int shelf, int i, long v) {
        int no = placeRefusal(shelf, i);
        if (no != 0) {
            return no;
        }
        Object row = shelves[shelf];
        if (row instanceof byte[] a) {
            a[i] = (byte) v;
        } else if (row instanceof short[] a) {
            a[i] = (short) v;
        } else if (row instanceof int[] a) {
            a[i] = (int) v;
        } else if (row instanceof long[] a) {
            a[i] = v;
        } else if (row instanceof boolean[] a) {
            a[i] = v != 0;
        }
        return 1;
    }

    long element(int shelf, int i) {
        if (placeRefusal(shelf, i) != 0) {
            return Long.MIN_VALUE;
        }
        Object e = java.lang.reflect.Array.get(shelves[shelf], i);
        return e instanceof Boolean b ? (b ? 1 : 0) : ((Number) e).longValue();
    }

    int shift(int shelf, int i, int other, int j, int n) {
        if (!within(shelf, 0, 5) || !within(other, 0, 5)) {
            return BAD;
        }
        Object from = shelves[shelf];
        Object to = shelves[other];
        if (from == null || to == null) {
            return -11;
        }
        if (!from.getClass().isArray() || from.getClass() != to.getClass()) {
            return -12;
        }
        try {
            System.arraycopy(from, i, to, j, n);
        } catch (IndexOutOfBoundsException e) {
            return -13;
        }
        return n;
    }

    int taken(int shelf, int k) {
        if (!within(shelf, 0, 5) || !within(k, 0, 7)) {
            return BAD;
        }
        if (shelves[shelf] == null) {
            return -11;
        }
        return KINDS.get(k).isInstance(shelves[shelf]) ? KINDS.indexOf(shelves[shelf].getClass()) : -12;
    }

    int count(int what) {
        return switch (what) {
            case 0 -> town.size();
            case 1 -> in.size();
            case 2 -> tape.length();
            case 3 -> undo.size();
            case 4 -> bodies.size();
            case 5 -> ran.size();
            default -> BAD;
        };
    }
}
