import java.util.Arrays;

/**
 * Books that tell what is owed for deeds, and the ways in which it can be paid.
 *
 * <p>The outer class looks at what is asked for and counts what it refuses; the classes inside it
 * are only called with what has been looked at.
 */
public final class DaysOnBread {
    private static final int NOBODY = -1;
    private static final int OTHER = -2;
    private static final int STATE = -3;
    private static final int BELOW = -4;
    private static final int ROOM = -6;
    private static final int NONE = -9;
    private static final int FAULT = -20;

    private static final int BOOKS = 6;
    private static final int RULES = 10;
    private static final int DEEDS = 8;
    private static final int MARK_SETS = 16;
    private static final int DONE = 12;
    private static final int HEAVIEST = 1;
    private static final int HALF = 2;
    private static final char[] MARK_SIGNS = {'b', 'd', 'm', 'r'};
    private static final int DIGITS = 3;
    private static final int TAPE = 16;
    private static final int FED = 8;
    private static final int ROW = 100;
    private static final int LEAST_BYTE = -128;
    private static final int GREATEST_BYTE = 127;

    private static final int KINDS = 6;
    private static final int FAST = 0;
    private static final int NIGHTS = 3;
    private static final int OTHERS = 4;
    private static final int SHORT = 5;
    private static final int END_OF_DAY = 9;
    private static final int WORTH = 0;
    private static final int HARDNESS = 1;
    private static final int A_DAY = 2;
    private static final int STOCK = 3;
    private static final int NUMBERS = 4;
    private static final int[] AT_FIRST = {
        10, 5, 1, 999,
        1, 1, 9, 999,
        5, 2, 3, 999,
        8, 6, 1, 999,
        10, 1, 0, 999,
        30, 20, 1, 999,
    };
    private static final int[] GREATEST = {99, 99, 9, 999};
    private static final int TENTHS = 10;
    private static final int CYCLE = 28;
    private static final int FRIENDS = 99;
    private static final int LONGEST = 400;
    private static final int LEAST_HARD_DAYS = 100;

    private static final int PUTTINGS = 12;
    private static final int UNITS_PUT = 30;

    private final int[] refusals;
    private final Bytes tape;
    private final Bytes row;
    private final RuleText text;
    private final Shelf shelf;
    private final Payings payings;
    private final Puttings puttings;
    private final Course course;
    private final Burden burden;
    private final Ways ways;
    private final Rings rings;
    private final Shelf shelfThen;
    private final Payings payingsThen;
    private final Puttings puttingsThen;
    private boolean imaged;

    public DaysOnBread() {
        refusals = new int[-ROOM + 1];
        tape = new Bytes(TAPE);
        row = new Bytes(ROW);
        text = new RuleText(tape);
        shelf = new Shelf();
        payings = new Payings();
        puttings = new Puttings();
        course = new Course(payings);
        burden = new Burden(payings);
        ways = new Ways(puttings);
        rings = new Rings(puttings);
        shelfThen = new Shelf();
        payingsThen = new Payings();
        puttingsThen = new Puttings();
    }

    public int feed(int n, long bytes) {
        if (n < 1) {
            return refuse(BELOW);
        }
        if (n > FED || tape.room() < n) {
            return refuse(ROOM);
        }
        for (int i = 0; i < n; i++) {
            tape.add((byte) (bytes >>> (8 * i)));
        }
        return tape.size();
    }

    public int rule(int book) {
        if (!isBook(book)) {
            return refuse(NOBODY);
        }
        Book into = shelf.books[book];
        if (into.size >= RULES) {
            return refuse(ROOM);
        }
        boolean sound = text.read();
        tape.clear();
        return sound ? into.add(text.deed, text.marks, text.days) : FAULT - text.place;
    }

    public int ruleOf(int book, int rule, int what) {
        if (!isBook(book) || rule < 0 || rule >= shelf.books[book].size) {
            return refuse(NOBODY);
        }
        Book from = shelf.books[book];
        switch (what) {
            case 0:
                return from.deeds[rule];
            case 1:
                return from.marks[rule];
            case 2:
                return from.days[rule];
            default:
                return refuse(OTHER);
        }
    }

    public int lean(int book, int other) {
        if (!isBook(book) || other < -1 || other >= BOOKS || other == book) {
            return refuse(NOBODY);
        }
        int was = shelf.books[book].leansOn;
        shelf.books[book].leansOn = other;
        return was;
    }

    public int mode(int book, int mode) {
        if (!isBook(book)) {
            return refuse(NOBODY);
        }
        if (mode < 0 || mode > HALF) {
            return refuse(OTHER);
        }
        int was = shelf.books[book].mode;
        shelf.books[book].mode = mode;
        return was;
    }

    public int owes(int book, int deed, int marks) {
        if (!isBook(book) || !isDeed(deed, marks)) {
            return refuse(NOBODY);
        }
        return shelf.daysFor(book, deed, marks);
    }

    public int why(int book, int deed, int marks) {
        if (!isBook(book) || !isDeed(deed, marks)) {
            return refuse(NOBODY);
        }
        int teller = shelf.teller(book, deed, marks);
        return isBook(teller) ? 10 * teller + shelf.books[teller].firstFor(deed, marks) : NONE;
    }

    public int done(int deed, int marks, boolean found) {
        if (!isDeed(deed, marks)) {
            return refuse(NOBODY);
        }
        if (shelf.doneSize >= DONE) {
            return refuse(ROOM);
        }
        return shelf.addDone(deed, marks, found);
    }

    public int undone() {
        int was = shelf.doneSize;
        shelf.doneSize = 0;
        return was;
    }

    public int together(int book) {
        return isBook(book) ? shelf.allDone(book) : refuse(NOBODY);
    }

    public int paying(int kind, int what, int v) {
        if (!isKind(kind)) {
            return refuse(NOBODY);
        }
        if (what < 0 || what >= NUMBERS) {
            return refuse(OTHER);
        }
        if (v < 0) {
            return refuse(BELOW);
        }
        if (v > GREATEST[what]) {
            return refuse(ROOM);
        }
        return payings.change(kind, what, v);
    }

    public int feasts(int bits) {
        if (bits < 0) {
            return refuse(BELOW);
        }
        if (bits >= 1 << CYCLE) {
            return refuse(ROOM);
        }
        payings.feasts = bits;
        return Integer.bitCount(bits);
    }

    public int friends(int n) {
        if (n < 0) {
            return refuse(BELOW);
        }
        if (n > FRIENDS) {
            return refuse(ROOM);
        }
        int was = payings.friends;
        payings.friends = n;
        return was;
    }

    public int least(int days, int within, int what) {
        if (what < 0 || what > KINDS) {
            return refuse(OTHER);
        }
        if (days < 0 || within < 1) {
            return refuse(BELOW);
        }
        if (days > LEAST_HARD_DAYS || within > LONGEST) {
            return refuse(ROOM);
        }
        return burden.leastHard(days * TENTHS, within, what);
    }

    public int soonest(int days) {
        if (days < 0) {
            return refuse(BELOW);
        }
        if (days > LONGEST) {
            return refuse(ROOM);
        }
        return course.daysToPay(days * TENTHS);
    }

    public int needed(int days, int within) {
        if (days < 0 || within < 1) {
            return refuse(BELOW);
        }
        if (days > LONGEST || within > LONGEST) {
            return refuse(ROOM);
        }
        return course.friendsToPay(days * TENTHS, within);
    }

    public int over(int from, int n, int to, int m) {
        if (!isKind(from) || !isKind(to) || from == to) {
            return refuse(NOBODY);
        }
        if (n < 1 || m < 1) {
            return refuse(BELOW);
        }
        if (n > UNITS_PUT || m > UNITS_PUT || puttings.size >= PUTTINGS) {
            return refuse(ROOM);
        }
        return puttings.add(from, n, to, m);
    }

    public int byPutting(int kind, int part) {
        if (!isKind(kind)) {
            return refuse(NOBODY);
        }
        if (part < 0 || part > 1) {
            return refuse(OTHER);
        }
        return ways.leastPart(kind, part == 1);
    }

    public int ring() {
        return rings.shortest();
    }

    public int stops() {
        return rings.fewestStops();
    }

    public int put(int v) {
        if (v < LEAST_BYTE) {
            return refuse(BELOW);
        }
        if (v > GREATEST_BYTE || row.room() < 1) {
            return refuse(ROOM);
        }
        row.add((byte) v);
        return row.size();
    }

    public int judge() {
        int place = course.firstBarred(row);
        row.clear();
        return place;
    }

    public int paid() {
        return course.firstBarred(row) == NONE ? course.tenths : NONE;
    }

    public int beside(boolean most) {
        return shelf.extreme(most);
    }

    public int part(int one, int other) {
        if (!isBook(one) || !isBook(other) || one == other) {
            return refuse(NOBODY);
        }
        return shelf.firstUnlike(one, other);
    }

    public int kin(int book) {
        return isBook(book) ? shelf.nearest(book) : refuse(NOBODY);
    }

    public int image() {
        shelfThen.copyFrom(shelf);
        payingsThen.copyFrom(payings);
        puttingsThen.copyFrom(puttings);
        imaged = true;
        return shelf.doneSize;
    }

    public int on() {
        if (!imaged) {
            return refuse(STATE);
        }
        shelf.copyFrom(shelfThen);
        payings.copyFrom(payingsThen);
        puttings.copyFrom(puttingsThen);
        return shelf.doneSize;
    }

    public int count(int what) {
        switch (what) {
            case 0:
                return shelf.rulesInAll();
            case 1:
                return shelf.doneSize;
            case 2:
                return puttings.size;
            case 3:
                return tape.size();
            case 4:
                return row.size();
            case 5:
                return Integer.bitCount(payings.feasts);
            default:
                return what > 10 && what - 10 < refusals.length ? refusals[what - 10] : NONE;
        }
    }

    private int refuse(int number) {
        if (number < 0 && number >= ROOM) {
            refusals[-number]++;
        }
        return number;
    }

    private static boolean isBook(int book) {
        return book >= 0 && book < BOOKS;
    }

    private static boolean isKind(int kind) {
        return kind >= 0 && kind < KINDS;
    }

    private static boolean isDeed(int deed, int marks) {
        return deed >= 0 && deed < DEEDS && marks >= 0 && marks < MARK_SETS;
    }

    /** A row of bytes with an end to its room. */
    private static final class Bytes {
        private final byte[] bytes;
        private int size;

        Bytes(int room) {
            bytes = new byte[Math.max(room, 0)];
        }

        int size() {
            return size;
        }

        int room() {
            return bytes.length - size;
        }

        void add(byte b) {
            if (size < bytes.length) {
                bytes[size] = b;
                size++;
            }
        }

        /** Behind the end it answers a byte that is no sign of a text and no kind. */
        int at(int place) {
            return place >= 0 && place < size ? bytes[place] : -1;
        }

        void clear() {
            size = 0;
        }
    }

    /** Reads one rule from a tape, and keeps its parts or the place of its fault. */
    private static final class RuleText {
        private final Bytes tape;
        private int place;
        private int deed;
        private int marks;
        private int days;

        RuleText(Bytes tape) {
            this.tape = tape;
        }

        /** If it answers false, the place is that of the fault. */
        boolean read() {
            place = 0;
            return readDeed() && readMarks() && readDays() && place == tape.size();
        }

        private boolean readDeed() {
            deed = tape.at(place) - 'a';
            if (deed < 0 || deed >= DEEDS) {
                return false;
            }
            place++;
            return true;
        }

        private boolean readMarks() {
            marks = 0;
            for (int i = 0; i < MARK_SIGNS.length; i++) {
                if (tape.at(place) == MARK_SIGNS[i]) {
                    marks |= 1 << i;
                    place++;
                }
            }
            if (tape.at(place) != ':') {
                return false;
            }
            place++;
            return true;
        }

        private boolean readDays() {
            days = 0;
            int digits = 0;
            while (digits < DIGITS && isDigit(tape.at(place))) {
                days = 10 * days + tape.at(place) - '0';
                place++;
                digits++;
            }
            return digits > 0;
        }

        private static boolean isDigit(int sign) {
            return sign >= '0' && sign <= '9';
        }
    }

    /** Rules in order, and what the book leans on. */
    private static final class Book {
        private final int[] deeds = new int[RULES];
        private final int[] marks = new int[RULES];
        private final int[] days = new int[RULES];
        private int size;
        private int leansOn = -1;
        private int mode;

        int add(int deed, int itsMarks, int itsDays) {
            if (size >= RULES) {
                return NONE;
            }
            deeds[size] = deed;
            marks[size] = itsMarks;
            days[size] = itsDays;
            size++;
            return size - 1;
        }

        int firstFor(int deed, int itsMarks) {
            for (int i = 0; i < size; i++) {
                if (deeds[i] == deed && (marks[i] & ~itsMarks) == 0) {
                    return i;
                }
            }
            return NONE;
        }

        int alikeIn(Book other) {
            int alike = 0;
            for (int i = 0; i < size; i++) {
                if (other.has(deeds[i], marks[i], days[i])) {
                    alike++;
                }
            }
            return alike;
        }

        private boolean has(int deed, int itsMarks, int itsDays) {
            for (int i = 0; i < size; i++) {
                if (deeds[i] == deed && marks[i] == itsMarks && days[i] == itsDays) {
                    return true;
                }
            }
            return false;
        }

        void copyFrom(Book other) {
            System.arraycopy(other.deeds, 0, deeds, 0, RULES);
            System.arraycopy(other.marks, 0, marks, 0, RULES);
            System.arraycopy(other.days, 0, days, 0, RULES);
            size = other.size;
            leansOn = other.leansOn;
            mode = other.mode;
        }
    }

    /** All books, and the deeds that are done. */
    private static final class Shelf {
        private final Book[] books = new Book[BOOKS];
        private final int[] doneDeeds = new int[DONE];
        private final int[] doneMarks = new int[DONE];
        private final int[] doneTimes = new int[DONE];
        private int doneSize;

        Shelf() {
            for (int i = 0; i < BOOKS; i++) {
                books[i] = new Book();
            }
        }

        int rulesInAll() {
            int all = 0;
            for (int i = 0; i < BOOKS; i++) {
                all += books[i].size;
            }
            return all;
        }

        /** The book that is not silent, of those that are asked one behind another. */
        int teller(int book, int deed, int marks) {
            int at = book;
            // a chain of more books than there are is a ring
            for (int asked = 0; asked < BOOKS && isBook(at); asked++) {
                if (books[at].firstFor(deed, marks) >= 0) {
                    return at;
                }
                at = books[at].leansOn;
            }
            return NONE;
        }

        int daysFor(int book, int deed, int marks) {
            int teller = teller(book, deed, marks);
            if (!isBook(teller)) {
                return NONE;
            }
            int rule = books[teller].firstFor(deed, marks);
            return rule >= 0 && rule < RULES ? books[teller].days[rule] : NONE;
        }

        int addDone(int deed, int marks, boolean found) {
            if (doneSize < DONE) {
                doneDeeds[doneSize] = deed;
                doneMarks[doneSize] = marks;
                doneTimes[doneSize] = found ? 2 : 1;
                doneSize++;
            }
            return doneSize;
        }

        int allDone(int book) {
            int sum = 0;
            int greatest = 0;
            for (int i = 0; i < doneSize; i++) {
                int days = Math.max(0, daysFor(book, doneDeeds[i], doneMarks[i]));
                int owed = doneTimes[i] * days;
                sum += owed;
                greatest = Math.max(greatest, owed);
            }
            switch (books[book].mode) {
                case HEAVIEST:
                    return greatest;
                case HALF:
                    return greatest + (sum - greatest) / 2;
                default:
                    return sum;
            }
        }

        int extreme(boolean most) {
            int best = 0;
            int owed = allDone(0);
            for (int book = 1; book < BOOKS; book++) {
                int its = allDone(book);
                if (most ? its > owed : its < owed) {
                    best = book;
                    owed = its;
                }
            }
            return best;
        }

        int firstUnlike(int one, int other) {
            for (int i = 0; i < DEEDS * MARK_SETS; i++) {
                int deed = i / MARK_SETS;
                int marks = i % MARK_SETS;
                if (daysFor(one, deed, marks) != daysFor(other, deed, marks)) {
                    return i;
                }
            }
            return NONE;
        }

        int nearest(int book) {
            int best = NONE;
            int most = 0;
            for (int other = 0; other < BOOKS; other++) {
                int alike = other == book ? 0 : books[book].alikeIn(books[other]);
                if (alike > most) {
                    best = other;
                    most = alike;
                }
            }
            return best;
        }

        void copyFrom(Shelf other) {
            for (int i = 0; i < BOOKS; i++) {
                books[i].copyFrom(other.books[i]);
            }
            System.arraycopy(other.doneDeeds, 0, doneDeeds, 0, DONE);
            System.arraycopy(other.doneMarks, 0, doneMarks, 0, DONE);
            System.arraycopy(other.doneTimes, 0, doneTimes, 0, DONE);
            doneSize = other.doneSize;
        }
    }

    /** What a man can pay with, the feasts, and the friends who fast with him. */
    private static final class Payings {
        private final int[] numbers = AT_FIRST.clone();
        private int feasts;
        private int friends;

        int number(int kind, int what) {
            int at = kind * NUMBERS + what;
            return at >= 0 && at < numbers.length ? numbers[at] : 0;
        }

        int change(int kind, int what, int v) {
            int at = kind * NUMBERS + what;
            if (at < 0 || at >= numbers.length) {
                return NONE;
            }
            int was = numbers[at];
            numbers[at] = v;
            return was;
        }

        boolean isFeast(int day) {
            return (feasts >>> (day % CYCLE) & 1) == 1;
        }

        int inADay(int kind, int withFriends) {
            int own = number(kind, A_DAY);
            return kind == OTHERS ? withFriends * (own + 1) : own;
        }

        /** The units that may be paid within so many days, whatever bars single nights. */
        int unitsAtMost(int kind, int within, int withFriends) {
            int all = inADay(kind, withFriends) * openDays(kind, within);
            return Math.min(number(kind, STOCK), all);
        }

        private int openDays(int kind, int within) {
            if (kind == NIGHTS) {
                return (within + 1) / 2;
            }
            return kind == FAST || kind == SHORT ? daysWithoutFeast(within) : within;
        }

        private int daysWithoutFeast(int within) {
            int days = 0;
            for (int day = 0; day < within; day++) {
                if (!isFeast(day)) {
                    days++;
                }
            }
            return days;
        }

        void copyFrom(Payings other) {
            System.arraycopy(other.numbers, 0, numbers, 0, numbers.length);
            feasts = other.feasts;
            friends = other.friends;
        }
    }

    /** A course of days on which units are paid, as far as they may be. */
    private static final class Course {
        private final Payings payings;
        private final int[] today = new int[KINDS];
        private final int[] spent = new int[KINDS];
        private int friends;
        private int day;
        private boolean nightsBarred;
        private int tenths;

        Course(Payings payings) {
            this.payings = payings;
        }

        /** The place of the first byte that may not be; what stands before it is spent. */
        int firstBarred(Bytes row) {
            begin(payings.friends);
            for (int i = 0; i < row.size(); i++) {
                int sign = row.at(i);
                if (sign == END_OF_DAY) {
                    endDay();
                } else if (open(sign) < 1) {
                    return i;
                } else {
                    spend(sign, 1);
                }
            }
            return NONE;
        }

        int daysToPay(int owed) {
            begin(payings.friends);
            for (int days = 0; days <= LONGEST; days++) {
                if (tenths >= owed) {
                    return days;
                }
                spendDay();
            }
            return NONE;
        }

        int friendsToPay(int owed, int within) {
            begin(0);
            for (int days = 0; days < within; days++) {
                spendDay();
            }
            // what friends do bars nothing and is barred by nothing, so it can be added at the end
            int worth = payings.number(OTHERS, WORTH);
            for (int n = 0; n <= FRIENDS; n++) {
                if (tenths + worth * payings.unitsAtMost(OTHERS, within, n) >= owed) {
                    return n;
                }
            }
            return NONE;
        }

        private void begin(int withFriends) {
            Arrays.fill(today, 0);
            Arrays.fill(spent, 0);
            friends = withFriends;
            day = 0;
            nightsBarred = false;
            tenths = 0;
        }

        private void spendDay() {
            for (int kind = 0; kind < KINDS; kind++) {
                spend(kind, open(kind));
            }
            endDay();
        }

        private void endDay() {
            nightsBarred = today[NIGHTS] > 0 || today[SHORT] > 0;
            Arrays.fill(today, 0);
            day++;
        }

        /** How many units more of what may be a kind can be paid on the day at hand. */
        private int open(int kind) {
            if (!isKind(kind) || isBarred(kind)) {
                return 0;
            }
            int ofDay = payings.inADay(kind, friends) - today[kind];
            int ofStock = payings.number(kind, STOCK) - spent[kind];
            return Math.max(0, Math.min(ofDay, ofStock));
        }

        private boolean isBarred(int kind) {
            if (kind == NIGHTS) {
                return nightsBarred;
            }
            return (kind == FAST || kind == SHORT) && payings.isFeast(day);
        }

        private void spend(int kind, int units) {
            if (isKind(kind)) {
                today[kind] += units;
                spent[kind] += units;
                tenths += units * payings.number(kind, WORTH);
            }
        }
    }

    /**
     * The least hard way to pay. Level k of the table tells the least hardness, by what is still to
     * be paid, with the kinds from k on alone: so the fewest units of the first kinds can be read
     * off it from the front.
     */
    private static final class Burden {
        private static final int WIDTH = LEAST_HARD_DAYS * TENTHS + 1;
        private static final int NO_WAY = 100_000_000;
        private static final int STOCK_BITS = 10;
        private final Payings payings;
        private final int[] table = new int[(KINDS + 1) * WIDTH];
        private final int[] atMost = new int[KINDS];

        Burden(Payings payings) {
            this.payings = payings;
        }

        /** What: a kind, for its units; the number of kinds, for the hardness. */
        int leastHard(int tenths, int within, int what) {
            if (tenths < 0 || tenths >= WIDTH) {
                return NONE;
            }
            Arrays.fill(table, KINDS * WIDTH, table.length, NO_WAY);
            table[KINDS * WIDTH] = 0;
            for (int kind = KINDS - 1; kind >= 0; kind--) {
                // what has no worth needs no word: it makes nothing less hard, so none of it is taken
                atMost[kind] = payings.unitsAtMost(kind, within, payings.friends);
                fillLevel(kind, tenths);
            }
            if (table[tenths] >= NO_WAY) {
                return NONE;
            }
            return what == KINDS ? table[tenths] : unitsOf(what, tenths);
        }

        private void fillLevel(int kind, int tenths) {
            int start = kind * WIDTH;
            System.arraycopy(table, start + WIDTH, table, start, WIDTH);
            int left = atMost[kind];
            // any number up to the most is a sum of some of these parts
            for (int bit = 0; bit < STOCK_BITS && left > 0; bit++) {
                int units = Math.min(1 << bit, left);
                offerPart(kind, units, tenths);
                left -= units;
            }
        }

        private void offerPart(int kind, int units, int tenths) {
            int start = kind * WIDTH;
            int worth = units * payings.number(kind, WORTH);
            int hardness = units * payings.number(kind, HARDNESS);
            // downwards, that no part is taken twice
            for (int owed = tenths; owed > 0; owed--) {
                int rest = Math.max(0, owed - worth);
                int with = table[start + rest] + hardness;
                table[start + owed] = Math.min(table[start + owed], with);
            }
        }

        private int unitsOf(int what, int tenths) {
            int owed = tenths;
            int units = 0;
            for (int kind = 0; kind <= what && kind < KINDS; kind++) {
                units = fewest(kind, owed);
                owed = Math.max(0, owed - units * payings.number(kind, WORTH));
            }
            return units;
        }

        private int fewest(int kind, int owed) {
            int worth = payings.number(kind, WORTH);
            int hardness = payings.number(kind, HARDNESS);
            int start = kind * WIDTH;
            for (int units = 0; units < atMost[kind]; units++) {
                int rest = Math.max(0, owed - units * worth);
                if (table[start + WIDTH + rest] + units * hardness == table[start + owed]) {
                    return units;
                }
            }
            return atMost[kind];
        }
    }

    /** Payings that are put over into one another, in the order in which they came. */
    private static final class Puttings {
        private final int[] from = new int[PUTTINGS];
        private final int[] owed = new int[PUTTINGS];
        private final int[] to = new int[PUTTINGS];
        private final int[] instead = new int[PUTTINGS];
        private int size;

        int add(int kind, int n, int other, int m) {
            if (size < PUTTINGS) {
                from[size] = kind;
                owed[size] = n;
                to[size] = other;
                instead[size] = m;
                size++;
            }
            return size;
        }

        void copyFrom(Puttings other) {
            System.arraycopy(other.from, 0, from, 0, PUTTINGS);
            System.arraycopy(other.owed, 0, owed, 0, PUTTINGS);
            System.arraycopy(other.to, 0, to, 0, PUTTINGS);
            System.arraycopy(other.instead, 0, instead, 0, PUTTINGS);
            size = other.size;
        }
    }

    /**
     * Worth by putting: for each set of kinds (bits) and each kind in it the least fraction by a way
     * from FAST through all of the set to the kind. The sets keep a ring from being gone round.
     */
    private static final class Ways {
        private static final int SETS = 1 << KINDS;
        private static final int ONLY_FAST = 1 << FAST;
        private final Puttings puttings;
        private final long[] above = new long[SETS * KINDS];
        private final long[] below = new long[SETS * KINDS];

        Ways(Puttings puttings) {
            this.puttings = puttings;
        }

        int leastPart(int kind, boolean belowTheLine) {
            goAllWays();
            int best = bestFor(kind);
            if (best < 0 || best >= below.length || below[best] == 0) {
                return NONE;
            }
            long common = commonDivisor(above[best], below[best]);
            if (common == 0) {
                return NONE;
            }
            return (int) ((belowTheLine ? below[best] : above[best]) / common);
        }

        /** Nothing below the line tells that there is no way. */
        private void goAllWays() {
            Arrays.fill(below, 0);
            above[ONLY_FAST * KINDS + FAST] = 1;
            below[ONLY_FAST * KINDS + FAST] = 1;
            for (int set = ONLY_FAST; set < SETS; set++) {
                for (int i = 0; i < puttings.size; i++) {
                    goOn(set, i);
                }
            }
        }

        private void goOn(int set, int putting) {
            int kind = puttings.to[putting];
            int here = set * KINDS + puttings.from[putting];
            int there = (set | 1 << kind) * KINDS + kind;
            if ((set >>> kind & 1) == 1 || below[here] == 0) {
                return;
            }
            long units = above[here] * puttings.instead[putting];
            long fasts = below[here] * puttings.owed[putting];
            if (below[there] == 0 || units * below[there] < above[there] * fasts) {
                above[there] = units;
                below[there] = fasts;
            }
        }

        private int bestFor(int kind) {
            int best = kind;
            for (int at = kind; at < below.length; at += KINDS) {
                boolean less = above[at] * below[best] < above[best] * below[at];
                if (below[at] != 0 && (below[best] == 0 || less)) {
                    best = at;
                }
            }
            return best;
        }

        private static long commonDivisor(long one, long other) {
            long divisor = one;
            long rest = other;
            for (int steps = 0; steps < 100 && rest > 0; steps++) {
                long next = divisor % rest;
                divisor = rest;
                rest = next;
            }
            return divisor;
        }
    }

    /** Rings by which less is paid than owed, over all sets of puttings (bits). */
    private static final class Rings {
        private final Puttings puttings;
        private final boolean[] holdsRing = new boolean[1 << PUTTINGS];

        Rings(Puttings puttings) {
            this.puttings = puttings;
        }

        int shortest() {
            lookThrough();
            int fewest = NONE;
            for (int set = 0; set < 1 << puttings.size; set++) {
                int size = Integer.bitCount(set);
                if (holdsRing[set] && (fewest == NONE || size < fewest)) {
                    fewest = size;
                }
            }
            return fewest;
        }

        int fewestStops() {
            lookThrough();
            int all = (1 << puttings.size) - 1;
            int best = all;
            for (int set = 0; set < all; set++) {
                if (!holdsRing[all & ~set] && Integer.bitCount(set) < Integer.bitCount(best)) {
                    best = set;
                }
            }
            return best;
        }

        private void lookThrough() {
            for (int set = 0; set < 1 << puttings.size; set++) {
                holdsRing[set] = smallerHolds(set) || isRing(set);
            }
        }

        private boolean smallerHolds(int set) {
            for (int i = 0; i < puttings.size; i++) {
                if ((set >>> i & 1) == 1 && holdsRing[set & ~(1 << i)]) {
                    return true;
                }
            }
            return false;
        }

        /** Whether these puttings, all of them and each once, are such a ring. */
        private boolean isRing(int set) {
            int start = firstKind(set);
            int at = start;
            int left = set;
            int seen = 0;
            long paid = 1;
            long owed = 1;
            for (int steps = 0; steps < KINDS && (seen >>> at & 1) == 0; steps++) {
                int next = puttingFrom(at, left);
                if (next < 0 || next >= PUTTINGS) {
                    return false;
                }
                seen |= 1 << at;
                left &= ~(1 << next);
                paid *= puttings.instead[next];
                owed *= puttings.owed[next];
                at = puttings.to[next];
            }
            return at == start && left == 0 && paid < owed;
        }

        /** The kind from which the first putting of the set goes; any for the empty set. */
        private int firstKind(int set) {
            for (int i = 0; i < puttings.size; i++) {
                if ((set >>> i & 1) == 1) {
                    return puttings.from[i];
                }
            }
            return FAST;
        }

        private int puttingFrom(int kind, int set) {
            for (int i = 0; i < puttings.size; i++) {
                if ((set >>> i & 1) == 1 && puttings.from[i] == kind) {
                    return i;
                }
            }
            return NONE;
        }
    }
}
