import java.util.ArrayList;
import java.util.Arrays;
import java.util.List;
import java.util.Random;
import java.util.regex.Matcher;
import java.util.regex.Pattern;

/**
 * Long runs of calls, the same each time, on the program and on a slow model of the document: the
 * model tries all ways one by one, where the program reckons.
 */
public final class ModelTest {
    private static final int NONE = -9;
    private static final int RUNS = 400;
    private static final int CALLS = 512;

    private record Rule(int deed, int marks, int days) { }

    private record Deed(int deed, int marks, boolean found) { }

    private record Putting(int from, int n, int to, int m) { }

    private static final class State {
        final List<List<Rule>> books = new ArrayList<>();
        final int[] leans = {-1, -1, -1, -1, -1, -1};
        final int[] modes = new int[6];
        List<Deed> done = new ArrayList<>();
        final int[][] pay = {{10, 5, 1, 999}, {1, 1, 9, 999}, {5, 2, 3, 999}, {8, 6, 1, 999}, {10, 1, 0, 999}, {30, 20, 1, 999}};
        int feasts;
        int friends;
        List<Putting> puttings = new ArrayList<>();

        State() {
            for (int i = 0; i < 6; i++) {
                books.add(new ArrayList<>());
            }
        }

        State copy() {
            State s = new State();
            for (int i = 0; i < 6; i++) {
                s.books.get(i).addAll(books.get(i));
                s.leans[i] = leans[i];
                s.modes[i] = modes[i];
                s.pay[i] = pay[i].clone();
            }
            s.done = new ArrayList<>(done);
            s.feasts = feasts;
            s.friends = friends;
            s.puttings = new ArrayList<>(puttings);
            return s;
        }
    }

    private static final class Model {
        State now = new State();
        State then;
        final List<Integer> tape = new ArrayList<>();
        final List<Integer> row = new ArrayList<>();
        final int[] refusals = new int[7];
        int[] best;
        int[] tried = new int[6];
        int[] caps = new int[6];
        boolean ringFound;
        int ringSize;
        long bestAbove;
        long bestBelow;

        int no(int number) {
            refusals[-number]++;
            return number;
        }

        boolean bad(int v, int below) {
            return v < 0 || v >= below;
        }

        int feed(int n, long bytes) {
            if (n < 1) return no(-4);
            if (n > 8 || n + tape.size() > 16) return no(-6);
            for (int i = 0; i < n; i++) tape.add((int) (bytes >> 8 * i) & 255);
            return tape.size();
        }

        /** By all that a text could go on with behind a beginning of it. */
        int rule(int book) {
            if (bad(book, 6)) return no(-1);
            if (now.books.get(book).size() == 10) return no(-6);
            StringBuilder b = new StringBuilder();
            for (int sign : tape) b.append((char) sign);
            tape.clear();
            String text = b.toString();
            Matcher m = Pattern.compile("([a-h])(b?d?m?r?):([0-9]{1,3})").matcher(text);
            if (!m.matches()) {
                int place = 0;
                Pattern beginning = Pattern.compile("([a-h](b?d?m?r?(:[0-9]{0,3})?)?)?");
                while (place < text.length() && beginning.matcher(text.substring(0, place + 1)).matches()) place++;
                return -20 - place;
            }
            int marks = 0;
            for (char sign : m.group(2).toCharArray()) marks += 1 << "bdmr".indexOf(sign);
            now.books.get(book).add(new Rule(m.group(1).charAt(0) - 'a', marks, Integer.parseInt(m.group(3))));
            return now.books.get(book).size() - 1;
        }

        int ruleOf(int book, int rule, int what) {
            if (bad(book, 6) || bad(rule, now.books.get(book).size())) return no(-1);
            if (bad(what, 3)) return no(-2);
            Rule r = now.books.get(book).get(rule);
            return new int[] {r.deed, r.marks, r.days}[what];
        }

        int lean(int book, int other) {
            if (bad(book, 6) || bad(other + 1, 7) || book == other) return no(-1);
            int was = now.leans[book];
            now.leans[book] = other;
            return was;
        }

        int mode(int book, int mode) {
            if (bad(book, 6)) return no(-1);
            if (bad(mode, 3)) return no(-2);
            int was = now.modes[book];
            now.modes[book] = mode;
            return was;
        }

        int search(int book, int deed, int marks, int left) {
            if (book < 0 || left == 0) return NONE;
            List<Rule> rules = now.books.get(book);
            for (int i = 0; i < rules.size(); i++) {
                Rule r = rules.get(i);
                if (r.deed == deed && (r.marks | marks) == marks) return 10 * book + i;
            }
            return search(now.leans[book], deed, marks, left - 1);
        }

        int days(int book, int deed, int marks) {
            int by = search(book, deed, marks, 50);
            return by < 0 ? NONE : now.books.get(by / 10).get(by % 10).days;
        }

        int owes(int book, int deed, int marks) {
            return bad(book, 6) || bad(deed, 8) || bad(marks, 16) ? no(-1) : days(book, deed, marks);
        }

        int why(int book, int deed, int marks) {
            return bad(book, 6) || bad(deed, 8) || bad(marks, 16) ? no(-1) : search(book, deed, marks, 50);
        }

        int done(int deed, int marks, boolean found) {
            if (bad(deed, 8) || bad(marks, 16)) return no(-1);
            if (now.done.size() == 12) return no(-6);
            now.done.add(new Deed(deed, marks, found));
            return now.done.size();
        }

        int undone() {
            int was = now.done.size();
            now.done.clear();
            return was;
        }

        int inAll(int book) {
            int[] owed = now.done.stream().mapToInt(d -> Math.max(0, days(book, d.deed, d.marks)) * (d.found ? 2 : 1)).sorted().toArray();
            int sum = Arrays.stream(owed).sum();
            int greatest = owed.length == 0 ? 0 : owed[owed.length - 1];
            return now.modes[book] == 0 ? sum : now.modes[book] == 1 ? greatest : greatest + (sum - greatest) / 2;
        }

        int together(int book) {
            return bad(book, 6) ? no(-1) : inAll(book);
        }

        int paying(int kind, int what, int v) {
            if (bad(kind, 6)) return no(-1);
            if (bad(what, 4)) return no(-2);
            if (v < 0) return no(-4);
            if (v > new int[] {99, 99, 9, 999}[what]) return no(-6);
            int was = now.pay[kind][what];
            now.pay[kind][what] = v;
            return was;
        }

        int feasts(int bits) {
            if (bits < 0) return no(-4);
            if (bits > 0xFFFFFFF) return no(-6);
            now.feasts = bits;
            return Integer.bitCount(bits);
        }

        int friends(int n) {
            if (n < 0) return no(-4);
            if (n > 99) return no(-6);
            int was = now.friends;
            now.friends = n;
            return was;
        }

        boolean feast(int day) {
            return (now.feasts & 1 << day % 28) != 0;
        }

        int aDay(int kind, int friends) {
            return kind == 4 ? friends * (now.pay[4][2] + 1) : now.pay[kind][2];
        }

        /** All counts of units from the fewest of kind 0 on, so that the first of equals is the one. */
        void tryUnits(int kind, int worth, int hardness, int owed) {
            if (best != null && hardness > best[6]) return;
            if (kind == 6) {
                if (worth >= owed && (best == null || hardness < best[6])) {
                    best = Arrays.copyOf(tried, 7);
                    best[6] = hardness;
                }
                return;
            }
            for (int n = 0; n <= caps[kind]; n++) {
                tried[kind] = n;
                tryUnits(kind + 1, worth + n * now.pay[kind][0], hardness + n * now.pay[kind][1], owed);
            }
        }

        /** Where trying all takes too long: for each kind from the last on, what is least for all that may be left. */
        int leastByTables(int days, int what) {
            int[][][] by = new int[7][10 * days + 1][];
            by[6][0] = new int[7];
            for (int kind = 5; kind >= 0; kind--) {
                for (int owed = 0; owed <= 10 * days; owed++) {
                    int units = -1;
                    int hardness = 0;
                    int[] rest = null;
                    for (int n = 0; n <= caps[kind]; n++) {
                        int[] others = by[kind + 1][Math.max(0, owed - n * now.pay[kind][0])];
                        if (others == null) continue;
                        int hard = others[6] + n * now.pay[kind][1];
                        if (units < 0 || hard < hardness) {
                            units = n;
                            hardness = hard;
                            rest = others;
                        }
                    }
                    if (units < 0) continue;
                    by[kind][owed] = rest.clone();
                    by[kind][owed][kind] = units;
                    by[kind][owed][6] = hardness;
                }
            }
            int[] first = by[0][10 * days];
            return first == null ? NONE : first[what];
        }

        int least(int days, int within, int what) {
            if (bad(what, 7)) return no(-2);
            if (days < 0 || within < 1) return no(-4);
            if (days > 100 || within > 400) return no(-6);
            long all = 1;
            for (int kind = 0; kind < 6; kind++) {
                int open = 0;
                for (int day = 0; day < within; day++) {
                    boolean may = kind == 3 ? day % 2 == 0 : kind != 0 && kind != 5 || !feast(day);
                    open += may ? aDay(kind, now.friends) : 0;
                }
                caps[kind] = now.pay[kind][0] == 0 ? 0 : Math.min(now.pay[kind][3], open);
                // more than this of one kind is never fewer nor less hard
                if (caps[kind] > 0) caps[kind] = Math.min(caps[kind], (10 * days + now.pay[kind][0] - 1) / now.pay[kind][0]);
                all *= caps[kind] + 1;
            }
            if (all > 200_000) return leastByTables(days, what);
            best = null;
            tryUnits(0, 0, 0, 10 * days);
            return best == null ? NONE : best[what];
        }

        int soonestWith(int days, int friends) {
            int[] left = new int[6];
            for (int kind = 0; kind < 6; kind++) left[kind] = now.pay[kind][3];
            int paid = 0;
            boolean behind = false;
            for (int day = 0; paid < 10 * days; day++) {
                if (day == 400) return NONE;
                boolean bars = false;
                for (int kind = 0; kind < 6; kind++) {
                    if (kind == 3 && behind || (kind == 0 || kind == 5) && feast(day)) continue;
                    int units = Math.min(left[kind], aDay(kind, friends));
                    left[kind] -= units;
                    paid += units * now.pay[kind][0];
                    bars |= units > 0 && (kind == 3 || kind == 5);
                }
                behind = bars;
                if (paid >= 10 * days) return day + 1;
            }
            return 0;
        }

        int soonest(int days) {
            if (days < 0) return no(-4);
            if (days > 400) return no(-6);
            return soonestWith(days, now.friends);
        }

        int needed(int days, int within) {
            if (days < 0 || within < 1) return no(-4);
            if (days > 400 || within > 400) return no(-6);
            for (int f = 0; f < 100; f++) {
                int behind = soonestWith(days, f);
                if (behind >= 0 && behind <= within) return f;
            }
            return NONE;
        }

        int over(int from, int n, int to, int m) {
            if (bad(from, 6) || bad(to, 6) || from == to) return no(-1);
            if (n < 1 || m < 1) return no(-4);
            if (n > 30 || m > 30 || now.puttings.size() == 12) return no(-6);
            now.puttings.add(new Putting(from, n, to, m));
            return now.puttings.size();
        }

        void goWays(int at, int to, int seen, long above, long below) {
            if (at == to) {
                if (bestBelow == 0 || above * bestBelow < bestAbove * below) {
                    bestAbove = above;
                    bestBelow = below;
                }
                return;
            }
            for (Putting p : now.puttings) {
                if (p.from == at && (seen & 1 << p.to) == 0) goWays(p.to, to, seen | 1 << p.to, above * p.m, below * p.n);
            }
        }

        int byPutting(int kind, int part) {
            if (bad(kind, 6)) return no(-1);
            if (bad(part, 2)) return no(-2);
            bestBelow = 0;
            goWays(0, kind, 1, 1, 1);
            if (bestBelow == 0) return NONE;
            long d = java.math.BigInteger.valueOf(bestAbove).gcd(java.math.BigInteger.valueOf(bestBelow)).longValue();
            return (int) ((part == 0 ? bestAbove : bestBelow) / d);
        }

        void goRings(int start, int at, int seen, int size, long paid, long owed, int without) {
            for (int i = 0; i < now.puttings.size(); i++) {
                Putting p = now.puttings.get(i);
                if (p.from != at || (without & 1 << i) != 0) continue;
                if (p.to == start && paid * p.m < owed * p.n) {
                    ringFound = true;
                    ringSize = Math.min(ringSize, size + 1);
                }
                if (p.to != start && (seen & 1 << p.to) == 0) {
                    goRings(start, p.to, seen | 1 << p.to, size + 1, paid * p.m, owed * p.n, without);
                }
            }
        }

        int ringWithout(int without) {
            ringFound = false;
            ringSize = 100;
            for (int kind = 0; kind < 6; kind++) goRings(kind, kind, 1 << kind, 0, 1, 1, without);
            return ringFound ? ringSize : NONE;
        }

        int ring() {
            return ringWithout(0);
        }

        int stops() {
            for (int size = 0; size <= 12; size++) {
                for (int set = 0; set < 4096; set++) {
                    if (Integer.bitCount(set) == size && ringWithout(set) == NONE) return set;
                }
            }
            return 0;
        }

        int put(int v) {
            if (v < -128) return no(-4);
            if (v > 127 || row.size() == 100) return no(-6);
            row.add(v);
            return row.size();
        }

        /** Each place by all that stands before it, without anything kept from the places before. */
        boolean mayBe(int place) {
            int sign = row.get(place);
            if (sign == 9) return true;
            if (sign < 0 || sign > 5) return false;
            int day = 0;
            int ofDay = 0;
            int inAll = 0;
            boolean bars = false;
            boolean barred = false;
            for (int i = 0; i < place; i++) {
                int before = row.get(i);
                if (before == 9) {
                    day++;
                    ofDay = 0;
                    barred = bars;
                    bars = false;
                } else {
                    ofDay += before == sign ? 1 : 0;
                    inAll += before == sign ? 1 : 0;
                    bars |= before == 3 || before == 5;
                }
            }
            if ((sign == 0 || sign == 5) && feast(day) || sign == 3 && barred) return false;
            return ofDay < aDay(sign, now.friends) && inAll < now.pay[sign][3];
        }

        int judged() {
            for (int i = 0; i < row.size(); i++) if (!mayBe(i)) return i;
            return NONE;
        }

        int judge() {
            int place = judged();
            row.clear();
            return place;
        }

        int paid() {
            return judged() == NONE ? row.stream().filter(v -> v != 9).mapToInt(v -> now.pay[v][0]).sum() : NONE;
        }

        int beside(boolean most) {
            int answer = 0;
            for (int book = 5; book >= 0; book--) {
                int one = inAll(book);
                boolean isIt = true;
                for (int other = 0; other < 6; other++) isIt &= most ? inAll(other) <= one : inAll(other) >= one;
                if (isIt) answer = book;
            }
            return answer;
        }

        int part(int one, int other) {
            if (bad(one, 6) || bad(other, 6) || one == other) return no(-1);
            for (int i = 0; i < 128; i++) if (days(one, i >> 4, i & 15) != days(other, i >> 4, i & 15)) return i;
            return NONE;
        }

        int kin(int book) {
            if (bad(book, 6)) return no(-1);
            int answer = NONE;
            long most = 0;
            for (int other = 0; other < 6; other++) {
                List<Rule> its = now.books.get(other);
                long alike = other == book ? 0 : now.books.get(book).stream().filter(its::contains).count();
                if (alike > most) {
                    most = alike;
                    answer = other;
                }
            }
            return answer;
        }

        int image() {
            then = now.copy();
            return then.done.size();
        }

        int on() {
            if (then == null) return no(-3);
            now = then.copy();
            return now.done.size();
        }

        int count(int what) {
            switch (what) {
                case 0: return now.books.stream().mapToInt(List::size).sum();
                case 1: return now.done.size();
                case 2: return now.puttings.size();
                case 3: return tape.size();
                case 4: return row.size();
                case 5: return Integer.bitCount(now.feasts);
                default: return what >= 11 && what <= 16 ? refusals[what - 10] : NONE;
            }
        }
    }

    private static Random chance;
    private static DaysOnBread x;
    private static Model y;
    private static int run;
    private static int wrong;
    private static long looked;
    private static final int[] answered = new int[31];
    private static final int[] withAnswer = new int[31];

    private static int upTo(int most) {
        return chance.nextInt(most + 1);
    }

    /** Seldom a number outside. */
    private static int about(int least, int greatest) {
        int dice = chance.nextInt(60);
        if (dice == 0) return least - 1;
        if (dice == 1) return greatest + 1;
        if (dice == 2) return chance.nextInt();
        return least + chance.nextInt(greatest - least + 1);
    }

    private static void same(int promise, String call, int got, int want) {
        looked++;
        answered[promise]++;
        if (want >= 0) withAnswer[promise]++;
        if (got != want && wrong++ < 20) {
            System.out.println("run " + run + ", promise " + promise + ": " + call + " answered " + got + ", the model " + want);
        }
    }

    private static String someText() {
        StringBuilder b = new StringBuilder();
        // few texts in some runs, that books have rules alike
        if (run % 3 == 0 && chance.nextInt(4) > 0) {
            return new String[] {"a:1", "ab:1", "b:2", "am:1", "a:10", "hr:2"}[upTo(5)];
        }
        b.append((char) ('a' + upTo(run % 2 == 0 ? 2 : 7)));
        for (int i = 0; i < 4; i++) if (chance.nextInt(3) == 0) b.append("bdmr".charAt(i));
        b.append(':');
        int digits = 1 + upTo(2);
        for (int i = 0; i < digits; i++) b.append((char) ('0' + upTo(9)));
        if (chance.nextInt(6) == 0) b.setCharAt(upTo(b.length() - 1), (char) (chance.nextBoolean() ? "abdmr:0i9/".charAt(upTo(9)) : upTo(255)));
        if (chance.nextInt(10) == 0) b.deleteCharAt(upTo(b.length() - 1));
        if (chance.nextInt(10) == 0) b.append("1:a".charAt(upTo(2)));
        return b.toString();
    }

    private static void feedText() {
        String text = someText();
        for (int at = 0; at < text.length();) {
            int n = Math.min(text.length() - at, 1 + upTo(7));
            long bytes = chance.nextLong();
            for (int i = 0; i < n; i++) bytes = bytes & ~(255L << 8 * i) | (long) text.charAt(at + i) << 8 * i;
            same(2, "feed", x.feed(n, bytes), y.feed(n, bytes));
            at += n;
        }
    }

    private static void books() {
        int book = about(0, 5);
        int deed = about(0, run % 2 == 0 ? 2 : 7);
        int marks = about(0, 15);
        switch (chance.nextInt(12)) {
            case 0: case 1: case 2:
                if (chance.nextInt(5) > 0) feedText();
                same(3, "rule(" + book + ")", x.rule(book), y.rule(book));
                break;
            case 3: {
                int other = about(-1, 5);
                same(5, "lean(" + book + "," + other + ")", x.lean(book, other), y.lean(book, other));
                break;
            }
            case 4: {
                int mode = about(0, 2);
                same(6, "mode(" + book + "," + mode + ")", x.mode(book, mode), y.mode(book, mode));
                break;
            }
            case 5:
                same(7, "owes", x.owes(book, deed, marks), y.owes(book, deed, marks));
                same(8, "why", x.why(book, deed, marks), y.why(book, deed, marks));
                break;
            case 6: {
                boolean found = chance.nextBoolean();
                same(9, "done", x.done(deed, marks, found), y.done(deed, marks, found));
                break;
            }
            case 7:
                if (chance.nextInt(6) == 0) same(10, "undone", x.undone(), y.undone());
                same(11, "together", x.together(book), y.together(book));
                break;
            case 8: {
                boolean most = chance.nextBoolean();
                same(25, "beside " + most, x.beside(most), y.beside(most));
                break;
            }
            case 9: {
                int other = about(0, 5);
                same(26, "part(" + book + "," + other + ")", x.part(book, other), y.part(book, other));
                break;
            }
            case 10:
                same(27, "kin(" + book + ")", x.kin(book), y.kin(book));
                break;
            default: {
                int rule = about(0, 9);
                int what = about(0, 2);
                same(4, "ruleOf", x.ruleOf(book, rule, what), y.ruleOf(book, rule, what));
            }
        }
    }

    private static int someNumber(int what) {
        boolean small = run % 4 != 0;
        switch (what) {
            case 0: return small && chance.nextInt(4) > 0 ? upTo(3) * 5 : about(0, 99);
            case 1: return small && chance.nextInt(4) > 0 ? upTo(3) : about(0, 99);
            case 2: return about(0, small ? 3 : 9);
            default: return small ? about(0, 4) : about(0, 999);
        }
    }

    private static void payings() {
        switch (chance.nextInt(9)) {
            case 0: case 1: case 2: {
                int kind = about(0, 5);
                int what = about(0, 3);
                int v = someNumber(what);
                same(12, "paying", x.paying(kind, what, v), y.paying(kind, what, v));
                break;
            }
            case 3: {
                int bits = chance.nextInt(8) == 0 ? about(0, 0xFFFFFFF) : chance.nextInt(1 << 28) & chance.nextInt();
                same(13, "feasts", x.feasts(bits), y.feasts(bits));
                break;
            }
            case 4: {
                int n = about(0, run % 2 == 0 ? 3 : 99);
                same(14, "friends", x.friends(n), y.friends(n));
                break;
            }
            case 5: case 6: {
                int days = run % 4 == 0 ? about(0, 100) : about(0, 9);
                int within = chance.nextInt(3) == 0 ? about(1, 400) : about(1, 9);
                int what = about(0, 6);
                same(15, "least(" + days + "," + within + "," + what + ")", x.least(days, within, what), y.least(days, within, what));
                break;
            }
            case 7: {
                int days = chance.nextInt(3) == 0 ? about(0, 400) : about(0, 20);
                same(16, "soonest(" + days + ")", x.soonest(days), y.soonest(days));
                break;
            }
            default: {
                int days = chance.nextInt(3) == 0 ? about(0, 400) : about(0, 20);
                int within = chance.nextInt(3) == 0 ? about(1, 400) : about(1, 9);
                same(17, "needed(" + days + "," + within + ")", x.needed(days, within), y.needed(days, within));
            }
        }
    }

    private static void puttings() {
        int dice = chance.nextInt(12);
        if (dice < 3) {
            int kinds = 1 + run % 5;
            int from = about(0, kinds);
            int to = about(0, kinds);
            int n = chance.nextBoolean() ? about(1, 3) : about(1, 30);
            int m = chance.nextBoolean() ? about(1, 3) : about(1, 30);
            same(18, "over", x.over(from, n, to, m), y.over(from, n, to, m));
        } else if (dice < 10) {
            int kind = about(0, 5);
            int part = about(0, 1);
            same(19, "byPutting(" + kind + "," + part + ")", x.byPutting(kind, part), y.byPutting(kind, part));
        } else if (dice == 10) {
            same(20, "ring", x.ring(), y.ring());
        } else if (chance.nextInt(4) == 0) {
            same(21, "stops", x.stops(), y.stops());
        }
    }

    private static void rows() {
        int dice = chance.nextInt(20);
        if (dice < 17) {
            int many = chance.nextInt(10) == 0 ? 8 : 1;
            for (int i = 0; i < many; i++) {
                int v = chance.nextInt(40) == 0 ? about(-128, 127) : chance.nextInt(3) == 0 ? 9 : upTo(5);
                same(22, "put", x.put(v), y.put(v));
            }
        } else if (dice < 18) {
            same(23, "judge", x.judge(), y.judge());
        } else {
            same(24, "paid", x.paid(), y.paid());
        }
    }

    private static void images() {
        int dice = chance.nextInt(10);
        if (dice == 0) {
            same(28, "image", x.image(), y.image());
        } else if (dice == 1) {
            same(29, "on", x.on(), y.on());
        } else {
            int what = chance.nextInt(12) == 0 ? about(0, 20) : chance.nextBoolean() ? upTo(5) : 11 + upTo(5);
            same(30, "count(" + what + ")", x.count(what), y.count(what));
        }
    }

    private static void oneRun() {
        chance = new Random(run);
        x = new DaysOnBread();
        y = new Model();
        if (run % 4 != 0) {
            for (int kind = 0; kind < 6; kind++) {
                int stock = upTo(4);
                same(12, "paying", x.paying(kind, 3, stock), y.paying(kind, 3, stock));
            }
        }
        for (int i = 0; i < CALLS / 2; i++) {
            switch (chance.nextInt(10)) {
                case 0: case 1: case 2: books(); break;
                case 3: case 4: case 5: payings(); break;
                case 6: case 7: puttings(); break;
                case 8: rows(); break;
                default: images();
            }
        }
        for (int what = 0; what < 18; what++) {
            same(30, "count(" + what + ")", x.count(what), y.count(what));
        }
    }

    public static void main(String[] args) {
        Watch.start();
        for (run = 0; run < RUNS; run++) {
            oneRun();
        }
        for (int promise = 2; promise <= 30; promise++) {
            if (withAnswer[promise] < 20) {
                wrong++;
                System.out.println("promise " + promise + " was asked " + answered[promise] + " times, and gave a number only " + withAnswer[promise] + " times");
            }
        }
        System.out.println(looked + " answers beside the model's, " + wrong + " wrong");
        if (wrong != 0) {
            System.exit(1);
        }
    }
}
