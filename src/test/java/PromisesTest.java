/** For each promise of the document: ordinary inputs, the edges that it names, and wrong inputs. */
public final class PromisesTest {
    private static final int NONE = -9;
    private static int promise;
    private static int wrong;
    private static int looked;

    public static void main(String[] args) {
        Watch.start();
        newObject();
        feed();
        rule();
        ruleFaults();
        ruleOf();
        lean();
        mode();
        owes();
        why();
        done();
        undone();
        together();
        paying();
        feasts();
        friends();
        least();
        leastLimits();
        leastOfSeveral();
        soonest();
        soonestBars();
        needed();
        over();
        byPutting();
        ring();
        stops();
        put();
        judge();
        judgeLimits();
        paid();
        beside();
        part();
        kin();
        image();
        imageKeeps();
        on();
        count();
        System.out.println(looked + " answers looked at, " + wrong + " wrong");
        if (wrong != 0) {
            System.exit(1);
        }
    }

    private static void due(String call, long got, long want) {
        looked++;
        if (got != want) {
            wrong++;
            System.out.println("promise " + promise + ": " + call + " answered " + got + ", due is " + want);
        }
    }

    /** A refusal answers its number, and is counted once. */
    private static void refused(DaysOnBread x, String call, int got, int want, int before) {
        due(call, got, want);
        due(call + ", counted", x.count(10 - want), before + 1);
    }

    private static DaysOnBread fresh(int ofPromise) {
        promise = ofPromise;
        return new DaysOnBread();
    }

    private static void type(DaysOnBread x, String text) {
        for (int i = 0; i < text.length(); i++) {
            x.feed(1, text.charAt(i));
        }
    }

    private static int write(DaysOnBread x, int book, String text) {
        type(x, text);
        return x.rule(book);
    }

    private static void row(DaysOnBread x, String signs) {
        for (int i = 0; i < signs.length(); i++) {
            x.put(signs.charAt(i) - '0');
        }
    }

    private static void pay(DaysOnBread x, int kind, int worth, int hardness, int aDay, int stock) {
        x.paying(kind, 0, worth);
        x.paying(kind, 1, hardness);
        x.paying(kind, 2, aDay);
        x.paying(kind, 3, stock);
    }

    /** Nothing can be paid but what the test puts back. */
    private static void payNothing(DaysOnBread x) {
        for (int kind = 0; kind < 6; kind++) {
            x.paying(kind, 3, 0);
        }
    }

    private static void newObject() {
        DaysOnBread x = fresh(1);
        for (int what = 0; what <= 5; what++) {
            due("count(" + what + ")", x.count(what), 0);
        }
        for (int what = 11; what <= 16; what++) {
            due("count(" + what + ")", x.count(what), 0);
        }
        for (int book = 0; book < 6; book++) {
            due("owes", x.owes(book, 0, 15), NONE);
            due("lean", x.lean(book, -1), -1);
            due("mode", x.mode(book, 0), 0);
        }
        int[][] first = {{10, 5, 1, 999}, {1, 1, 9, 999}, {5, 2, 3, 999}, {8, 6, 1, 999}, {10, 1, 0, 999}, {30, 20, 1, 999}};
        for (int kind = 0; kind < 6; kind++) {
            for (int what = 0; what < 4; what++) {
                due("paying " + kind + " " + what, x.paying(kind, what, 0), first[kind][what]);
            }
        }
        due("friends", x.friends(0), 0);
        DaysOnBread other = new DaysOnBread();
        due("another object is its own", other.paying(0, 0, 10), 10);
    }

    private static void feed() {
        DaysOnBread x = fresh(2);
        refused(x, "9 with room for them", x.feed(9, 0), -6, 0);
        due("lowest first", x.feed(4, 0x30343A61L), 4);
        due("read", x.rule(0), 0);
        due("days", x.owes(0, 0, 0), 40);
        due("all eight", x.feed(8, 0x3030303A726D6462L), 8);
        due("behind", x.feed(1, -1L), 9);
        due("the first eight", x.rule(0), -28);
        due("the eighth is the highest", x.feed(8, 0x35343A726D646261L), 8);
        due("no fault", x.rule(0), 1);
        due("days", x.ruleOf(0, 1, 2), 45);
        due("only n of them come", x.feed(1, 0x6262L), 1);
        due("to 9", x.feed(8, 0), 9);
        refused(x, "above 16", x.feed(8, 0), -6, 1);
        due("tape stays", x.count(3), 9);
        due("to 16", x.feed(7, 0), 16);
        refused(x, "full", x.feed(1, 0), -6, 2);
        refused(x, "9", x.feed(9, 0), -6, 3);
        refused(x, "0", x.feed(0, 0), -4, 0);
        refused(x, "least int", x.feed(Integer.MIN_VALUE, 0), -4, 1);
        refused(x, "greatest int", x.feed(Integer.MAX_VALUE, 0), -6, 4);
        due("tape stays", x.count(3), 16);
    }

    private static void rule() {
        DaysOnBread x = fresh(3);
        due("first", write(x, 2, "a:0"), 0);
        due("second", write(x, 2, "hbdmr:999"), 1);
        due("another book", write(x, 5, "bb:12"), 0);
        due("tape is empty", x.count(3), 0);
        due("deed d, mark d", write(x, 5, "dd:5"), 1);
        due("owes", x.owes(5, 3, 2), 5);
        due("000", write(x, 5, "c:000"), 2);
        due("none owed is not silent", x.owes(5, 2, 0), 0);
        due("007", write(x, 5, "e:007"), 3);
        due("owes", x.owes(5, 4, 0), 7);
        type(x, "a:1");
        refused(x, "book 6", x.rule(6), -1, 0);
        refused(x, "book -1", x.rule(-1), -1, 1);
        due("tape stays", x.count(3), 3);
        for (int i = 4; i < 10; i++) {
            due("rule " + i, i == 4 ? x.rule(5) : write(x, 5, "a:1"), i);
        }
        type(x, "a?");
        refused(x, "eleventh", x.rule(5), -6, 0);
        due("tape stays", x.count(3), 2);
        due("it is looked at in another book", x.rule(4), -21);
        due("rules", x.count(0), 12);
    }

    private static void ruleFaults() {
        DaysOnBread x = fresh(3);
        String[] texts = {"", "a", "a:", "i:1", "`:1", "A:1", ":1", "1", "a1", "a::1", "a:x", "a:1x", "a:12x", "a:123x", "a:1234",
            "abb:1", "adb:1", "armb:1", "arm:1", "abdmr", "abdmr1", "abdmrr:1", "ba:1", "a:1:", "a:-1", "a :1", "a: 1", "bd:12 ", "ab", "a:/",
            "a:9:", "\u0000", "a\u0000"};
        int[] places = {0, 1, 2, 0, 0, 0, 0, 0, 1, 2, 2, 3, 4, 5, 5,
            2, 2, 2, 2, 5, 5, 5, 1, 3, 2, 1, 2, 5, 2, 2,
            3, 0, 1};
        for (int i = 0; i < texts.length; i++) {
            due("'" + texts[i] + "'", write(x, 0, texts[i]), -20 - places[i]);
            due("tape has none", x.count(3), 0);
        }
        due("16 bytes", write(x, 0, "abdmr:1234567890"), -29);
        x.feed(2, 0xFF61L);
        due("a byte below 0", x.rule(0), -21);
        x.feed(1, 0xFFL);
        due("a byte below 0 at first", x.rule(0), -20);
        x.feed(4, 0xFF313A61L);
        due("a byte below 0 at the end", x.rule(0), -23);
        due("no rule came", x.count(0), 0);
        for (int what = 11; what <= 16; what++) {
            due("nothing is counted", x.count(what), 0);
        }
    }

    private static void ruleOf() {
        DaysOnBread x = fresh(4);
        write(x, 0, "hbm:120");
        write(x, 0, "ar:7");
        write(x, 5, "bd:3");
        int[][] parts = {{7, 5, 120}, {0, 8, 7}};
        for (int rule = 0; rule < 2; rule++) {
            for (int what = 0; what < 3; what++) {
                due("rule " + rule + " " + what, x.ruleOf(0, rule, what), parts[rule][what]);
            }
        }
        due("marks of book 5", x.ruleOf(5, 0, 1), 2);
        refused(x, "rule 2", x.ruleOf(0, 2, 0), -1, 0);
        refused(x, "rule -1", x.ruleOf(0, -1, 0), -1, 1);
        refused(x, "book 6", x.ruleOf(6, 0, 0), -1, 2);
        refused(x, "book -1", x.ruleOf(-1, 0, 9), -1, 3);
        refused(x, "rule before what", x.ruleOf(0, 2, 3), -1, 4);
        refused(x, "what 3", x.ruleOf(0, 0, 3), -2, 0);
        refused(x, "what -1", x.ruleOf(0, 0, -1), -2, 1);
    }

    private static void lean() {
        DaysOnBread x = fresh(5);
        due("on 5", x.lean(0, 5), -1);
        due("was 5", x.lean(0, 1), 5);
        due("none", x.lean(0, -1), 1);
        due("was none", x.lean(0, 2), -1);
        due("nothing was refused", x.count(11), 0);
        refused(x, "on itself", x.lean(3, 3), -1, 0);
        refused(x, "on 6", x.lean(3, 6), -1, 1);
        refused(x, "on -2", x.lean(3, -2), -1, 2);
        refused(x, "book 6", x.lean(6, 0), -1, 3);
        refused(x, "book -1", x.lean(-1, 0), -1, 4);
        refused(x, "book -1 on none", x.lean(-1, -1), -1, 5);
        due("refused changes nothing", x.lean(0, -1), 2);
    }

    private static void mode() {
        DaysOnBread x = fresh(6);
        due("to 2", x.mode(5, 2), 0);
        due("to 1", x.mode(5, 1), 2);
        due("another book", x.mode(4, 1), 0);
        refused(x, "mode 3", x.mode(5, 3), -2, 0);
        refused(x, "mode -1", x.mode(5, -1), -2, 1);
        refused(x, "book 6", x.mode(6, 3), -1, 0);
        refused(x, "book -1", x.mode(-1, 0), -1, 1);
        due("refused changes nothing", x.mode(5, 0), 1);
    }

    private static void owes() {
        DaysOnBread x = fresh(7);
        write(x, 0, "abd:1");
        write(x, 0, "am:2");
        write(x, 0, "a:3");
        write(x, 0, "abdmr:4");
        due("both marks", x.owes(0, 0, 3), 1);
        due("one of the marks", x.owes(0, 0, 1), 3);
        due("first that fits", x.owes(0, 0, 7), 1);
        due("second", x.owes(0, 0, 5), 2);
        due("no mark", x.owes(0, 0, 0), 3);
        due("never the last", x.owes(0, 0, 15), 1);
        due("another deed", x.owes(0, 1, 15), NONE);
        write(x, 2, "br:9");
        write(x, 3, "b:8");
        x.lean(0, 1);
        x.lean(1, 2);
        x.lean(2, 3);
        due("through a silent one", x.owes(0, 1, 8), 9);
        due("through a rule that does not fit", x.owes(0, 1, 0), 8);
        x.lean(3, 1);
        due("a ring that does not come back to it", x.owes(0, 7, 15), NONE);
        due("a ring with a rule", x.owes(3, 1, 15), 8);
        due("its own rule first", x.owes(0, 0, 8), 3);
        x.lean(4, 5);
        x.lean(5, 0);
        x.lean(3, -1);
        due("through all six", x.owes(4, 1, 0), 8);
        due("none at the end", x.owes(4, 7, 0), NONE);
        refused(x, "book 6", x.owes(6, 0, 0), -1, 0);
        refused(x, "book -1", x.owes(-1, 0, 0), -1, 1);
        refused(x, "deed 8", x.owes(0, 8, 0), -1, 2);
        refused(x, "deed -1", x.owes(0, -1, 0), -1, 3);
        refused(x, "marks 16", x.owes(0, 0, 16), -1, 4);
        refused(x, "marks -1", x.owes(0, 0, -1), -1, 5);
    }

    private static void why() {
        DaysOnBread x = fresh(8);
        for (int i = 0; i < 9; i++) {
            write(x, 5, "a:1");
        }
        write(x, 5, "b:1");
        due("book 5, rule 9", x.why(5, 1, 3), 59);
        due("the first", x.why(5, 0, 3), 50);
        due("silent", x.why(0, 1, 0), NONE);
        x.lean(0, 5);
        due("the book on which it leans", x.why(0, 1, 0), 59);
        x.lean(5, 0);
        due("a ring", x.why(0, 2, 0), NONE);
        write(x, 0, "bb:1");
        due("book 0, rule 0", x.why(0, 1, 1), 0);
        refused(x, "book 6", x.why(6, 0, 0), -1, 0);
        refused(x, "book -1", x.why(-1, 0, 0), -1, 1);
        refused(x, "deed 8", x.why(0, 8, 0), -1, 2);
        refused(x, "deed -1", x.why(0, -1, 0), -1, 3);
        refused(x, "marks 16", x.why(0, 0, 16), -1, 4);
        refused(x, "marks -1", x.why(0, 0, -1), -1, 5);
    }

    private static void done() {
        DaysOnBread x = fresh(9);
        refused(x, "deed 8", x.done(8, 0, false), -1, 0);
        refused(x, "deed -1", x.done(-1, 0, false), -1, 1);
        refused(x, "marks 16", x.done(0, 16, false), -1, 2);
        refused(x, "marks -1", x.done(0, -1, false), -1, 3);
        for (int i = 1; i <= 12; i++) {
            due("done", x.done(7, 15, i % 2 == 0), i);
        }
        refused(x, "thirteenth", x.done(0, 0, false), -6, 0);
        refused(x, "nobody before room", x.done(8, 0, false), -1, 4);
        due("twelve", x.count(1), 12);
        write(x, 0, "hbdmr:10");
        due("six found out, six told", x.together(0), 180);
    }

    private static void undone() {
        DaysOnBread x = fresh(10);
        due("none", x.undone(), 0);
        write(x, 0, "a:5");
        x.done(0, 0, true);
        x.done(0, 0, true);
        due("two", x.undone(), 2);
        due("none", x.undone(), 0);
        due("nothing owed", x.together(0), 0);
        due("told again", x.done(0, 0, false), 1);
        due("not found out any more", x.together(0), 5);
        for (int i = 0; i < 11; i++) {
            x.done(0, 0, false);
        }
        due("twelve", x.undone(), 12);
        due("room again", x.done(0, 0, false), 1);
    }

    private static void together() {
        DaysOnBread x = fresh(11);
        for (int mode = 0; mode < 3; mode++) {
            x.mode(0, mode);
            due("nothing done", x.together(0), 0);
        }
        write(x, 0, "a:10");
        write(x, 0, "b:7");
        write(x, 0, "c:8");
        x.done(0, 0, false);
        x.done(1, 0, true);
        x.done(2, 0, false);
        x.done(3, 0, true);
        x.mode(0, 0);
        due("sum, the silent one none", x.together(0), 32);
        x.mode(0, 1);
        due("greatest is the one found out", x.together(0), 14);
        x.mode(0, 2);
        due("half of 18", x.together(0), 23);
        write(x, 0, "d:1");
        due("half of 20", x.together(0), 24);
        x.done(3, 0, false);
        due("half of 21, cut", x.together(0), 24);
        x.lean(1, 0);
        due("its own mode", x.together(1), 35);
        due("silent book", x.together(2), 0);
        x.undone();
        x.done(2, 0, false);
        x.done(2, 1, false);
        due("of two greatest one is halved", x.together(0), 12);
        refused(x, "book 6", x.together(6), -1, 0);
        refused(x, "book -1", x.together(-1), -1, 1);
        DaysOnBread y = fresh(11);
        write(y, 0, "h:999");
        for (int i = 0; i < 12; i++) {
            y.done(7, 15, true);
        }
        due("the most that can be", y.together(0), 23976);
    }

    private static void paying() {
        DaysOnBread x = fresh(12);
        int[] greatest = {99, 99, 9, 999};
        for (int what = 0; what < 4; what++) {
            x.paying(3, what, 0);
            due("was 0", x.paying(3, what, greatest[what]), 0);
            refused(x, "above", x.paying(3, what, greatest[what] + 1), -6, what);
            refused(x, "below", x.paying(3, what, -1), -4, what);
            due("refused changes nothing", x.paying(3, what, 1), greatest[what]);
        }
        due("other kinds stay", x.paying(2, 3, 1), 999);
        due("other numbers stay", x.paying(2, 2, 1), 3);
        refused(x, "kind 6", x.paying(6, 4, -1), -1, 0);
        refused(x, "kind -1", x.paying(-1, 0, 0), -1, 1);
        refused(x, "what 4", x.paying(0, 4, -1), -2, 0);
        refused(x, "what -1", x.paying(0, -1, 0), -2, 1);
        refused(x, "least int", x.paying(0, 0, Integer.MIN_VALUE), -4, 4);
        refused(x, "greatest int", x.paying(5, 3, Integer.MAX_VALUE), -6, 4);
    }

    private static void feasts() {
        DaysOnBread x = fresh(13);
        due("all", x.feasts((1 << 28) - 1), 28);
        due("now", x.count(5), 28);
        due("the 28th", x.feasts(1 << 27), 1);
        due("some", x.feasts(0x5050505), 8);
        refused(x, "29 bits", x.feasts(1 << 28), -6, 0);
        refused(x, "greatest int", x.feasts(Integer.MAX_VALUE), -6, 1);
        refused(x, "below 0", x.feasts(-1), -4, 0);
        refused(x, "least int", x.feasts(Integer.MIN_VALUE), -4, 1);
        due("refused changes nothing", x.count(5), 8);
        due("none", x.feasts(0), 0);
        payNothing(x);
        pay(x, 0, 10, 1, 1, 999);
        x.feasts(1 << 27);
        due("before the feast", x.soonest(27), 27);
        due("on the feast", x.soonest(28), 29);
        due("again and again", x.soonest(55), 57);
    }

    private static void friends() {
        DaysOnBread x = fresh(14);
        due("was 0", x.friends(99), 0);
        refused(x, "100", x.friends(100), -6, 0);
        refused(x, "-1", x.friends(-1), -4, 0);
        due("was 99", x.friends(1), 99);
        due("was 1", x.friends(0), 1);
    }

    private static void least() {
        DaysOnBread x = fresh(15);
        int[] asked = {0, 0, 20, 0, 0, 0, 40};
        for (int what = 0; what < 7; what++) {
            due("10 within 10, " + what, x.least(10, 10, what), asked[what]);
            due("0 within 1, " + what, x.least(0, 1, what), 0);
        }
        due("100 within 400", x.least(100, 400, 6), 400);
        refused(x, "what 7", x.least(-1, 0, 7), -2, 0);
        refused(x, "what -1", x.least(0, 1, -1), -2, 1);
        refused(x, "days -1", x.least(-1, 401, 0), -4, 0);
        refused(x, "within 0", x.least(101, 0, 0), -4, 1);
        refused(x, "within least int", x.least(0, Integer.MIN_VALUE, 0), -4, 2);
        refused(x, "days 101", x.least(101, 400, 6), -6, 0);
        refused(x, "within 401", x.least(100, 401, 6), -6, 1);
        refused(x, "greatest ints", x.least(Integer.MAX_VALUE, Integer.MAX_VALUE, 6), -6, 2);
        payNothing(x);
        for (int what = 0; what < 7; what++) {
            due("no way, " + what, x.least(1, 400, what), NONE);
            due("nothing to pay, " + what, x.least(0, 400, what), 0);
        }
    }

    private static void leastLimits() {
        DaysOnBread x = fresh(15);
        payNothing(x);
        pay(x, 3, 10, 1, 1, 999);
        due("nights: half of 5, rounded up", x.least(3, 5, 3), 3);
        due("no more", x.least(4, 5, 3), NONE);
        due("half of 6", x.least(3, 6, 3), 3);
        due("no more", x.least(4, 6, 3), NONE);
        due("half of 7", x.least(4, 7, 3), 4);
        x.feasts((1 << 28) - 1);
        due("nights on feasts", x.least(4, 7, 3), 4);
        x.paying(3, 2, 9);
        due("nine a day", x.least(9, 1, 3), 9);
        x.paying(3, 3, 8);
        due("stock", x.least(9, 1, 3), NONE);
        for (int kind = 0; kind <= 5; kind += 5) {
            payNothing(x);
            pay(x, kind, 10, 1, 2, 999);
            x.feasts((1 << 28) - 1);
            due("feasts all the time", x.least(1, 400, kind), NONE);
            x.feasts(0b110);
            due("two feasts of 5", x.least(6, 5, kind), 6);
            due("no more", x.least(7, 5, kind), NONE);
            due("four feasts of 33", x.least(58, 33, kind), 58);
            due("no more", x.least(59, 33, kind), NONE);
        }
        payNothing(x);
        for (int kind = 1; kind <= 2; kind++) {
            payNothing(x);
            pay(x, kind, 10, 1, 2, 999);
            due("on all days", x.least(10, 5, kind), 10);
            due("no more", x.least(11, 5, kind), NONE);
        }
        payNothing(x);
        pay(x, 4, 10, 3, 2, 999);
        due("no friends", x.least(1, 400, 6), NONE);
        x.friends(2);
        due("friends times 3, a day", x.least(12, 2, 6), 36);
        due("no more", x.least(13, 2, 6), NONE);
        x.paying(4, 2, 0);
        due("friends times 1", x.least(4, 2, 4), 4);
        due("no more", x.least(5, 2, 4), NONE);
        x.paying(4, 0, 0);
        due("worth 0", x.least(1, 400, 6), NONE);
        pay(x, 2, 0, 0, 9, 999);
        pay(x, 3, 5, 7, 9, 999);
        due("of worth 0 none", x.least(1, 400, 2), 0);
        due("but of what has worth", x.least(1, 400, 6), 14);
        payNothing(x);
        pay(x, 2, 99, 99, 9, 999);
        due("worth more than owed", x.least(1, 1, 6), 99);
        pay(x, 2, 1, 99, 9, 999);
        due("999 units do not do", x.least(100, 400, 6), NONE);
        pay(x, 1, 1, 98, 9, 1);
        due("one more does", x.least(100, 400, 6), 999 * 99 + 98);
    }

    private static void leastOfSeveral() {
        DaysOnBread x = fresh(15);
        payNothing(x);
        for (int kind = 0; kind < 3; kind++) {
            pay(x, kind, 10, 1, 9, 2);
        }
        int[] five = {1, 2, 2, 0, 0, 0, 5};
        for (int what = 0; what < 7; what++) {
            due("fewest of the first, " + what, x.least(5, 5, what), five[what]);
        }
        payNothing(x);
        pay(x, 0, 10, 0, 9, 9);
        pay(x, 1, 10, 0, 9, 1);
        pay(x, 5, 30, 0, 9, 9);
        due("no hardness: fewest of fast", x.least(7, 5, 0), 0);
        due("fewest of psalms", x.least(7, 5, 1), 0);
        due("fewest of short", x.least(7, 5, 5), 3);
        due("hardness", x.least(7, 5, 6), 0);
        payNothing(x);
        pay(x, 0, 20, 4, 9, 9);
        pay(x, 2, 10, 2, 9, 9);
        pay(x, 3, 30, 6, 9, 1);
        due("fast none", x.least(10, 9, 0), 0);
        due("coins as few as the rest allow", x.least(10, 9, 2), 7);
        due("nights", x.least(10, 9, 3), 1);
    }

    private static void soonest() {
        DaysOnBread x = fresh(16);
        due("nothing owed", x.soonest(0), 0);
        due("one day pays 7.2", x.soonest(7), 1);
        due("not 8", x.soonest(8), 2);
        due("64 tenths a day, and 8 on the first", x.soonest(400), 63);
        refused(x, "-1", x.soonest(-1), -4, 0);
        refused(x, "401", x.soonest(401), -6, 0);
        refused(x, "greatest int", x.soonest(Integer.MAX_VALUE), -6, 1);
        payNothing(x);
        due("nothing can be paid", x.soonest(1), NONE);
        due("nothing owed all the same", x.soonest(0), 0);
        pay(x, 2, 10, 1, 1, 999);
        due("not in 400", x.soonest(400), 400);
        pay(x, 2, 9, 1, 1, 999);
        due("360 in 400", x.soonest(360), 400);
        due("361 not", x.soonest(361), NONE);
        pay(x, 2, 10, 1, 9, 20);
        due("stock", x.soonest(20), 3);
        due("no more", x.soonest(21), NONE);
        payNothing(x);
        pay(x, 4, 10, 0, 0, 999);
        due("others without friends", x.soonest(1), NONE);
        x.friends(3);
        due("three a day", x.soonest(6), 2);
        x.paying(4, 2, 1);
        due("six a day", x.soonest(7), 2);
        due("asked again", x.soonest(7), 2);
    }

    private static void soonestBars() {
        DaysOnBread x = fresh(16);
        payNothing(x);
        pay(x, 3, 10, 0, 1, 999);
        due("every other night", x.soonest(3), 5);
        x.feasts((1 << 28) - 1);
        due("nights on feasts", x.soonest(3), 5);
        x.feasts(0);
        pay(x, 3, 10, 0, 2, 999);
        due("two a night", x.soonest(3), 3);
        pay(x, 5, 1, 0, 1, 2);
        due("short on days 0 and 1 bars nights on days 1 and 2", x.soonest(4), 4);
        x.feasts(0b11);
        due("short on days 2 and 3", x.soonest(6), 6);
        x.paying(5, 0, 0);
        x.feasts(0);
        due("a short of no worth bars, too", x.soonest(4), 4);
        x.paying(5, 2, 0);
        due("a short that is not paid does not", x.soonest(4), 3);
        payNothing(x);
        pay(x, 1, 1, 0, 9, 999);
        x.feasts((1 << 28) - 1);
        due("psalms on feasts", x.soonest(9), 10);
        payNothing(x);
        pay(x, 0, 10, 0, 1, 999);
        pay(x, 5, 10, 0, 1, 999);
        x.feasts(0b101);
        due("fast and short not on feasts", x.soonest(3), 4);
    }

    private static void needed() {
        DaysOnBread x = fresh(17);
        payNothing(x);
        pay(x, 4, 10, 0, 0, 999);
        x.friends(50);
        due("nothing owed", x.needed(0, 1), 0);
        due("one", x.needed(1, 1), 1);
        due("99", x.needed(99, 1), 99);
        due("100", x.needed(100, 1), NONE);
        due("half of 5, rounded up", x.needed(5, 2), 3);
        x.paying(4, 2, 9);
        due("ten each", x.needed(400, 4), 10);
        due("and one more", x.needed(400, 3), 14);
        x.paying(4, 3, 39);
        due("stock", x.needed(40, 400), NONE);
        due("up to the stock", x.needed(39, 400), 1);
        due("friends stay", x.friends(0), 50);
        pay(x, 2, 10, 0, 1, 1);
        due("with a coin", x.needed(40, 400), 1);
        due("with a coin alone", x.needed(1, 1), 0);
        x.paying(4, 0, 0);
        due("worth 0", x.needed(2, 400), NONE);
        pay(x, 2, 0, 0, 1, 1);
        pay(x, 3, 10, 0, 1, 999);
        due("three nights within five days", x.needed(3, 5), 0);
        due("not within four", x.needed(3, 4), NONE);
        refused(x, "-1", x.needed(-1, 401), -4, 0);
        refused(x, "within 0", x.needed(401, 0), -4, 1);
        refused(x, "401", x.needed(401, 400), -6, 0);
        refused(x, "within 401", x.needed(400, 401), -6, 1);
        due("400 within 400", x.needed(400, 400), NONE);
    }

    private static void over() {
        DaysOnBread x = fresh(18);
        refused(x, "kind 6", x.over(6, 0, 0, 0), -1, 0);
        refused(x, "to kind 6", x.over(0, 1, 6, 1), -1, 1);
        refused(x, "kind -1", x.over(-1, 1, 0, 1), -1, 2);
        refused(x, "to kind -1", x.over(0, 1, -1, 1), -1, 3);
        refused(x, "one twice", x.over(2, 0, 2, 31), -1, 4);
        refused(x, "n 0", x.over(0, 0, 1, 31), -4, 0);
        refused(x, "m 0", x.over(0, 31, 1, 0), -4, 1);
        refused(x, "n 31", x.over(0, 31, 1, 1), -6, 0);
        refused(x, "m 31", x.over(0, 1, 1, 31), -6, 1);
        due("none", x.count(2), 0);
        for (int i = 1; i <= 12; i++) {
            due("putting " + i, x.over(i % 6, 30, (i + 1) % 6, 30), i);
        }
        refused(x, "thirteenth", x.over(0, 1, 1, 1), -6, 2);
        refused(x, "below before room", x.over(0, 0, 1, 1), -4, 2);
        due("twelve", x.count(2), 12);
    }

    private static void byPutting() {
        DaysOnBread x = fresh(19);
        due("fast above", x.byPutting(0, 0), 1);
        due("fast below", x.byPutting(0, 1), 1);
        due("none", x.byPutting(5, 0), NONE);
        x.over(0, 4, 1, 6);
        fraction(x, 1, 3, 2);
        x.over(1, 9, 2, 3);
        fraction(x, 2, 1, 2);
        x.over(0, 2, 2, 1);
        fraction(x, 2, 1, 2);
        x.over(0, 30, 2, 1);
        fraction(x, 2, 1, 30);
        x.over(2, 30, 1, 30);
        fraction(x, 1, 1, 30);
        x.over(1, 30, 0, 1);
        fraction(x, 0, 1, 1);
        fraction(x, 2, 1, 30);
        due("no way to 3", x.byPutting(3, 1), NONE);
        x.over(4, 1, 3, 1);
        due("no way from fast", x.byPutting(3, 0), NONE);
        refused(x, "kind 6", x.byPutting(6, 2), -1, 0);
        refused(x, "kind -1", x.byPutting(-1, 0), -1, 1);
        refused(x, "part 2", x.byPutting(0, 2), -2, 0);
        refused(x, "part -1", x.byPutting(0, -1), -2, 1);
        DaysOnBread y = fresh(19);
        for (int kind = 0; kind < 5; kind++) {
            y.over(kind, 29, kind + 1, 30);
        }
        fraction(y, 5, 24300000, 20511149);
        DaysOnBread z = fresh(19);
        z.over(0, 1, 1, 2);
        z.over(1, 30, 2, 1);
        z.over(2, 30, 1, 1);
        fraction(z, 1, 2, 1);
        fraction(z, 2, 1, 15);
        z.over(1, 4, 3, 2);
        fraction(z, 3, 1, 1);
        DaysOnBread w = fresh(19);
        w.over(0, 2, 1, 7);
        w.over(1, 3, 2, 5);
        w.over(2, 11, 3, 4);
        fraction(w, 3, 70, 33);
        w.over(0, 3, 2, 4);
        fraction(w, 3, 16, 33);
        w.over(2, 5, 1, 2);
        w.over(1, 13, 3, 2);
        fraction(w, 3, 16, 195);
        fraction(w, 1, 8, 15);
        for (int i = w.count(2); i < 12; i++) {
            w.over(3, 1, 4, i);
        }
        fraction(w, 4, 32, 65);
    }

    private static void fraction(DaysOnBread x, int kind, int above, int below) {
        due("above, kind " + kind, x.byPutting(kind, 0), above);
        due("below, kind " + kind, x.byPutting(kind, 1), below);
    }

    private static void ring() {
        DaysOnBread x = fresh(20);
        due("none", x.ring(), NONE);
        x.over(1, 3, 2, 2);
        due("one putting", x.ring(), NONE);
        x.over(2, 2, 1, 3);
        due("as much as owed", x.ring(), NONE);
        for (int kind = 0; kind < 6; kind++) {
            x.over(kind, 2, (kind + 1) % 6, kind == 5 ? 1 : 2);
        }
        due("all six", x.ring(), 6);
        x.over(2, 3, 0, 4);
        due("three: 4 by 3", x.ring(), 3);
        DaysOnBread y = fresh(20);
        for (int kind = 0; kind < 6; kind++) {
            y.over(kind, 30, (kind + 1) % 6, kind == 5 ? 29 : 30);
        }
        due("all six, barely", y.ring(), 6);
        y.over(0, 1, 5, 1);
        due("two", y.ring(), 2);
        DaysOnBread z = fresh(20);
        z.over(0, 1, 1, 2);
        z.over(1, 1, 0, 2);
        z.over(0, 1, 2, 2);
        z.over(2, 1, 0, 2);
        due("more is paid than owed", z.ring(), NONE);
        z.over(0, 5, 1, 1);
        due("the other putting of the same two kinds", z.ring(), 2);
        DaysOnBread w = fresh(20);
        w.over(0, 1, 1, 3);
        w.over(1, 1, 2, 1);
        w.over(2, 2, 1, 1);
        w.over(2, 1, 0, 1);
        due("a ring apart from fast", w.ring(), 2);
    }

    private static void stops() {
        DaysOnBread x = fresh(21);
        due("none", x.stops(), 0);
        x.over(0, 1, 1, 1);
        x.over(1, 1, 0, 1);
        due("no ring", x.stops(), 0);
        x.over(1, 2, 0, 1);
        due("the least as bits", x.stops(), 1);
        x.over(0, 2, 2, 1);
        x.over(2, 1, 0, 1);
        due("one of each", x.stops(), 1 | 8);
        DaysOnBread y = fresh(21);
        y.over(1, 2, 0, 1);
        y.over(2, 2, 0, 1);
        y.over(0, 1, 3, 1);
        y.over(3, 1, 1, 1);
        y.over(3, 1, 2, 1);
        due("the fewest, not the first", y.stops(), 4);
        DaysOnBread z = fresh(21);
        for (int kind = 0; kind < 6; kind++) {
            z.over(kind, 30, (kind + 1) % 6, 1);
            z.over((kind + 1) % 6, 30, kind, 1);
        }
        // one of each two, and of the great rings one each way: five forward and the least backward
        due("six of twelve", z.stops(), 0b010101010110);
        due("nothing changes", z.count(2), 12);
    }

    private static void put() {
        DaysOnBread x = fresh(22);
        due("least byte", x.put(-128), 1);
        due("greatest byte", x.put(127), 2);
        refused(x, "-129", x.put(-129), -4, 0);
        refused(x, "128", x.put(128), -6, 0);
        refused(x, "least int", x.put(Integer.MIN_VALUE), -4, 1);
        for (int i = 3; i <= 100; i++) {
            due("put", x.put(0), i);
        }
        refused(x, "101", x.put(0), -6, 1);
        refused(x, "below before room", x.put(-129), -4, 2);
        due("a hundred", x.count(4), 100);
    }

    private static void judge() {
        DaysOnBread x = fresh(23);
        due("no row", x.judge(), NONE);
        row(x, "0125");
        due("may be", x.judge(), NONE);
        due("row has none", x.count(4), 0);
        String[] rows = {"00", "1111111111", "2222", "33", "55", "4", "6", "7", "8", "93", "393", "3993", "593", "5993", "35", "539", "0909", "9999999"};
        int[] places = {1, 9, 3, 1, 1, 0, 0, 0, 0, NONE, 2, NONE, 2, NONE, NONE, NONE, NONE, NONE};
        for (int i = 0; i < rows.length; i++) {
            row(x, rows[i]);
            due(rows[i], x.judge(), places[i]);
        }
        int[] none = {-1, -128, 127, 10, 100, -9};
        for (int sign : none) {
            x.put(0);
            x.put(sign);
            due("0 " + sign, x.judge(), 1);
        }
        for (int i = 0; i < 99; i++) {
            x.put(9);
        }
        x.put(6);
        due("the last of a hundred", x.judge(), 99);
        row(x, "39395");
        due("a night that is barred", x.judge(), 2);
        row(x, "3");
        due("nothing of the last row bars", x.judge(), NONE);
    }

    private static void judgeLimits() {
        DaysOnBread x = fresh(23);
        x.feasts(0b10);
        row(x, "0909");
        due("a feast on day 1", x.judge(), 2);
        row(x, "95");
        due("short on it", x.judge(), 1);
        row(x, "9123");
        due("others on it", x.judge(), NONE);
        for (int day = 0; day < 29; day++) {
            x.put(9);
        }
        x.put(0);
        due("and on day 29", x.judge(), 29);
        for (int day = 0; day < 30; day++) {
            x.put(9);
        }
        x.put(0);
        due("not on day 30", x.judge(), NONE);
        x.feasts(0);
        x.paying(2, 3, 4);
        row(x, "22292");
        due("stock 4", x.judge(), NONE);
        row(x, "222922");
        due("above stock", x.judge(), 5);
        x.paying(1, 2, 0);
        row(x, "1");
        due("a day 0", x.judge(), 0);
        x.friends(2);
        row(x, "444");
        due("two friends", x.judge(), 2);
        x.paying(4, 2, 2);
        row(x, "444444944");
        due("six a day", x.judge(), NONE);
        row(x, "4444444");
        due("seven", x.judge(), 6);
        x.paying(4, 0, 0);
        row(x, "4");
        due("worth 0 may be", x.judge(), NONE);
        x.paying(3, 2, 2);
        row(x, "3393");
        due("two nights bar the next", x.judge(), 3);
    }

    private static void paid() {
        DaysOnBread x = fresh(24);
        due("no row", x.paid(), 0);
        row(x, "0123");
        due("sum", x.paid(), 24);
        due("asked again", x.paid(), 24);
        row(x, "95");
        due("with a short", x.paid(), 54);
        due("row stays", x.count(4), 6);
        x.paying(5, 0, 99);
        due("as worth now", x.paid(), 123);
        x.put(8);
        due("one may not be", x.paid(), NONE);
        due("row stays", x.count(4), 7);
        due("judged", x.judge(), 6);
        due("none any more", x.paid(), 0);
    }

    private static void beside() {
        DaysOnBread x = fresh(25);
        due("least of all alike", x.beside(false), 0);
        due("most of all alike", x.beside(true), 0);
        for (int book = 0; book < 6; book++) {
            write(x, book, "a:" + new int[] {5, 3, 9, 3, 9, 6}[book]);
        }
        x.done(0, 0, false);
        due("least", x.beside(false), 1);
        due("most", x.beside(true), 2);
        x.done(0, 0, true);
        x.mode(2, 1);
        due("by its mode", x.beside(true), 4);
        x.mode(4, 2);
        due("half", x.beside(true), 4);
        x.mode(1, 1);
        x.mode(3, 1);
        x.mode(0, 1);
        due("least by mode", x.beside(false), 1);
        x.undone();
        due("nothing done", x.beside(true), 0);
    }

    private static void part() {
        DaysOnBread x = fresh(26);
        due("both silent", x.part(0, 1), NONE);
        write(x, 0, "hbdmr:0");
        due("the last, silent is unlike none owed", x.part(0, 1), 127);
        due("the other way", x.part(1, 0), 127);
        write(x, 1, "h:0");
        due("by marks", x.part(0, 1), 112);
        x.lean(0, 1);
        due("by leaning alike", x.part(0, 1), NONE);
        write(x, 0, "cm:5");
        due("deed 2, marks 4", x.part(0, 1), 36);
        write(x, 2, "cmr:5");
        due("marks 4 before 12", x.part(2, 0), 36);
        write(x, 5, "a:1");
        due("the least of all", x.part(5, 4), 0);
        refused(x, "one twice", x.part(3, 3), -1, 0);
        refused(x, "6", x.part(0, 6), -1, 1);
        refused(x, "6 first", x.part(6, 0), -1, 2);
        refused(x, "-1", x.part(-1, 0), -1, 3);
        refused(x, "-1 second", x.part(0, -1), -1, 4);
    }

    private static void kin() {
        DaysOnBread x = fresh(27);
        due("empty", x.kin(0), NONE);
        write(x, 0, "a:1");
        write(x, 0, "a:1");
        write(x, 0, "bb:2");
        due("none has one", x.kin(0), NONE);
        write(x, 5, "bb:2");
        due("one alike", x.kin(0), 5);
        due("of 5", x.kin(5), 0);
        write(x, 4, "a:1");
        due("two of this one alike", x.kin(0), 4);
        write(x, 3, "a:01");
        due("the least of several", x.kin(0), 3);
        write(x, 1, "b:2");
        write(x, 1, "bb:3");
        write(x, 1, "bd:2");
        due("other marks, days or deed", x.kin(1), NONE);
        x.lean(2, 0);
        due("leaning is no rule", x.kin(2), NONE);
        write(x, 4, "c:3");
        write(x, 3, "c:4");
        write(x, 3, "bb:2");
        due("of 4", x.kin(4), 0);
        due("of 5, one each", x.kin(5), 0);
        DaysOnBread y = fresh(27);
        write(y, 0, "a:0");
        write(y, 1, "b:1");
        due("a rule of nothing", y.kin(0), NONE);
        due("is in no other book", y.kin(1), NONE);
        refused(x, "6", x.kin(6), -1, 0);
        refused(x, "-1", x.kin(-1), -1, 1);
    }

    private static void image() {
        DaysOnBread x = fresh(28);
        due("none done", x.image(), 0);
        x.done(0, 0, false);
        x.done(0, 0, false);
        due("two done", x.image(), 2);
        x.undone();
        due("on", x.on(), 2);
        due("another image", x.image(), 2);
        x.undone();
        x.image();
        x.done(1, 1, true);
        due("the last image", x.on(), 0);
    }

    private static void imageKeeps() {
        DaysOnBread x = fresh(28);
        write(x, 0, "a:10");
        x.lean(1, 0);
        x.mode(1, 2);
        x.done(0, 0, true);
        x.paying(5, 3, 7);
        x.feasts(3);
        x.friends(4);
        x.over(0, 2, 1, 1);
        x.over(1, 1, 0, 1);
        type(x, "b:");
        row(x, "12");
        due("image", x.image(), 1);
        type(x, "5");
        due("another rule", x.rule(0), 1);
        write(x, 3, "c:1");
        x.lean(1, 3);
        x.mode(1, 1);
        x.undone();
        x.done(1, 0, false);
        x.done(1, 0, false);
        x.paying(5, 3, 8);
        x.feasts(7);
        x.friends(5);
        x.over(1, 4, 2, 1);
        due("a way that came behind it", x.byPutting(2, 1), 8);
        due("a ring that came behind it", x.over(0, 4, 2, 1), 4);
        due("a ring of two", x.over(2, 1, 0, 1), 5);
        x.ring();
        type(x, "d:123");
        row(x, "0");
        x.rule(9);
        promise = 29;
        due("on", x.on(), 1);
        due("rules", x.count(0), 1);
        due("deed 1 is silent", x.owes(0, 1, 0), NONE);
        due("rule 1 is gone", x.ruleOf(0, 1, 0), -1);
        due("puttings", x.count(2), 2);
        due("ring", x.ring(), 2);
        due("stops", x.stops(), 1);
        due("by putting", x.byPutting(2, 0), NONE);
        due("feasts", x.count(5), 2);
        due("tape stays", x.count(3), 5);
        due("row stays", x.count(4), 3);
        due("refusals stay", x.count(11), 2);
        due("together", x.together(1), 20);
        due("mode", x.mode(1, 0), 2);
        due("lean", x.lean(1, -1), 0);
        due("stock", x.paying(5, 3, 1), 7);
        due("friends", x.friends(1), 4);
        x.undone();
        x.done(0, 1, false);
        x.done(2, 0, false);
        due("once more", x.on(), 1);
        due("found out as then", x.together(1), 20);
        due("mode", x.mode(1, 0), 2);
        due("lean", x.lean(1, -1), 0);
        due("stock", x.paying(5, 3, 1), 7);
        due("friends", x.friends(1), 4);
        due("the row as put", x.paid(), NONE);
        x.feasts(0);
        due("the row as put", x.paid(), 16);
        due("the tape as fed", x.rule(0), 1);
        due("days", x.ruleOf(0, 1, 2), 123);
    }

    private static void on() {
        DaysOnBread x = fresh(29);
        refused(x, "no image", x.on(), -3, 0);
        refused(x, "no image", x.on(), -3, 1);
        x.done(0, 0, false);
        x.image();
        x.undone();
        due("one done", x.on(), 1);
        x.done(0, 0, false);
        due("one again", x.on(), 1);
        due("refusals stay", x.count(13), 2);
        write(x, 0, "ab:3");
        write(x, 0, "a:5");
        x.image();
        x.undone();
        x.done(0, 1, false);
        due("another deed", x.together(0), 3);
        x.on();
        due("the deed as then", x.together(0), 5);
    }

    private static void count() {
        DaysOnBread x = fresh(30);
        write(x, 0, "a:1");
        write(x, 5, "a:1");
        write(x, 5, "a:1");
        x.done(0, 0, false);
        x.done(0, 0, false);
        for (int i = 0; i < 4; i++) {
            x.over(0, 1, 1, 1);
        }
        x.feed(5, 0);
        row(x, "123456");
        x.feasts(0x7F);
        int[] all = {3, 2, 4, 5, 6, 7};
        for (int what = 0; what < 6; what++) {
            due("count(" + what + ")", x.count(what), all[what]);
        }
        x.rule(6);
        x.mode(0, 3);
        x.mode(0, 3);
        x.on();
        x.on();
        x.on();
        for (int i = 0; i < 4; i++) {
            x.friends(-1);
        }
        for (int i = 0; i < 6; i++) {
            x.friends(100);
        }
        int[] refusals = {1, 2, 3, 4, 0, 6};
        for (int i = 0; i < 6; i++) {
            due("count(" + (11 + i) + ")", x.count(11 + i), refusals[i]);
        }
        int[] others = {-1, 6, 7, 8, 9, 10, 17, 18, Integer.MIN_VALUE, Integer.MAX_VALUE, -11};
        for (int what : others) {
            due("count(" + what + ")", x.count(what), NONE);
        }
        due("that is no refusal", x.count(12), 2);
    }
}
