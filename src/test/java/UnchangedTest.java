import java.util.List;

/**
 * What changes nothing, shown by a twin: two objects get the same calls, one of them one call more, and
 * then both are asked for all that can be asked.
 */
public final class UnchangedTest {
    private static final String BOOKS = "write(0,abd:40) write(0,a:30) write(1,bm:12) write(1,a:30) write(5,hr:999) lean(0,1) lean(1,5) lean(2,0)"
        + " mode(0,2) mode(1,1) done(0,3,true) done(1,4,false) done(7,8,true) done(0,0,false)";
    private static final String PAYINGS = " paying(2,3,7) paying(0,0,12) paying(5,1,21) paying(3,2,2) paying(4,2,1) feasts(20) friends(3)"
        + " over(0,3,1,2) over(1,5,2,7) over(2,4,0,3) over(0,2,4,3)";
    private static final String SOME = BOOKS + PAYINGS + " row(12390)";
    private static final String FULL = "10*write(0,abd:40) write(1,abd:40) 12*done(0,3,true) 6*over(0,3,1,2) 6*over(1,3,0,4)"
        + " feed(8,0x30343A6461) feed(8,0) 100*put(9)";

    /** Each of these changes nothing in a new object, nor in SOME. */
    private static final String[] ASKED = {
        "owes(0,0,3)", "why(0,0,3)", "together(0)", "together(1)", "least(9,9,6)", "least(9,9,2)", "least(100,1,3)",
        "soonest(3)", "soonest(400)", "needed(3,2)", "needed(400,400)", "byPutting(2,0)", "byPutting(5,1)", "ring()", "stops()",
        "paid()", "beside(true)", "beside(false)", "part(0,1)", "kin(0)", "count(0)", "count(11)", "count(99)", "image()",
    };

    private static final String[] REFUSED = {
        "feed(0,97)=-4", "feed(9,97)=-6", "rule(-1)=-1", "rule(6)=-1", "ruleOf(6,0,0)=-1", "ruleOf(0,9,0)=-1", "ruleOf(0,0,3)=-2",
        "lean(6,0)=-1", "lean(0,0)=-1", "lean(0,6)=-1", "lean(0,-2)=-1", "mode(6,0)=-1", "mode(0,3)=-2", "mode(0,-1)=-2",
        "owes(6,0,0)=-1", "owes(0,8,0)=-1", "owes(0,0,16)=-1", "why(6,0,0)=-1", "why(0,8,0)=-1", "why(0,0,16)=-1",
        "done(8,0,true)=-1", "done(0,16,true)=-1", "together(6)=-1", "paying(6,0,0)=-1", "paying(0,4,0)=-2", "paying(0,0,-1)=-4",
        "paying(0,0,100)=-6", "paying(0,1,100)=-6", "paying(0,2,10)=-6", "paying(0,3,1000)=-6", "feasts(-1)=-4",
        "feasts(0x10000000)=-6", "friends(-1)=-4", "friends(100)=-6", "least(0,1,7)=-2", "least(-1,1,0)=-4", "least(101,1,0)=-6",
        "least(0,401,0)=-6", "soonest(-1)=-4", "soonest(401)=-6", "needed(-1,1)=-4", "needed(0,0)=-4", "needed(401,1)=-6",
        "needed(0,401)=-6", "over(6,1,0,1)=-1", "over(0,1,6,1)=-1", "over(0,1,0,1)=-1", "over(0,0,1,1)=-4", "over(0,1,1,0)=-4",
        "over(0,31,1,1)=-6", "over(0,1,1,31)=-6", "byPutting(6,0)=-1", "byPutting(0,2)=-2", "put(-129)=-4", "put(128)=-6",
        "part(6,0)=-1", "part(0,6)=-1", "part(0,0)=-1", "kin(6)=-1", "on()=-3",
    };

    /** Refused for want of room, in FULL. */
    private static final String[] NO_ROOM = {"feed(1,97)=-6", "rule(0)=-6", "done(0,0,false)=-6", "over(0,1,2,1)=-6", "put(0)=-6"};

    /** What an image keeps: calls that change it and nothing beside it. */
    private static final String[] KEPT = {
        "write(0,ab:5)", "write(3,c:7)", "write(5,h:1)", "lean(0,5)", "lean(1,-1)", "lean(3,2)", "mode(0,0)", "mode(1,2)", "mode(5,1)",
        "done(2,2,true)", "undone()", "undone() done(0,3,false)", "undone() 4*done(7,8,true)", "paying(0,0,3)", "paying(1,1,3)",
        "paying(2,2,1)", "paying(2,3,6)", "paying(3,3,1)", "paying(4,2,3)", "paying(5,3,2)", "feasts(1)", "feasts(0)", "friends(0)",
        "over(2,9,0,1)", "over(4,1,5,2)", "8*over(0,30,1,1)",
    };

    /** What stays at ON as it is. */
    private static final String[] BESIDE_IT = {
        "feed(8,0x3130303A61)", "feed(1,97)", "rule(0)", "write(3,x)", "put(5)", "put(-128)", "judge()", "rule(6)", "mode(0,3)",
        "friends(-1)", "friends(100)", "put(-129)", "12*feed(0,0)",
    };

    private static int wrong;
    private static int looked;

    public static void main(String[] args) {
        Watch.start();
        for (String call : ASKED) {
            alike("asking changes nothing: " + call, "", call);
            alike("asking changes nothing: " + call, SOME, call);
        }
        alike("asking changes nothing: ruleOf", SOME, "ruleOf(0,0,0)");
        for (String call : REFUSED) {
            refused(SOME + " type(c:)", call);
        }
        for (String call : NO_ROOM) {
            refused(FULL, call);
        }
        for (String call : KEPT) {
            same("on() undoes " + call, SOME + " image() " + call + " on()", SOME);
            same("on() undoes again " + call, SOME + " image() on() " + call + " on()", SOME);
            same("a new image keeps " + call, SOME + " image() " + call + " image() undone() on()", SOME + " " + call);
            same("it is undone by on() alone: " + call, SOME + " image() " + call, SOME + " " + call);
            differs("what is asked tells of " + call, SOME + " " + call, SOME);
        }
        for (String call : BESIDE_IT) {
            same("on() leaves " + call, SOME + " image() " + call + " on()", SOME + " " + call);
        }
        System.out.println(looked + " twins, " + wrong + " wrong");
        if (wrong != 0) {
            System.exit(1);
        }
    }

    private static void fail(String what, Object how) {
        wrong++;
        System.out.println(what);
        System.out.println("    " + how);
    }

    private static void alike(String what, String before, String call) {
        same(what, before + " " + call, before);
    }

    /** All but its own count of refusals is as without the call. */
    private static void refused(String before, String call) {
        int number = Integer.parseInt(call.substring(call.indexOf('=') + 1));
        StringBuilder counts = new StringBuilder();
        for (int what = 11; what <= 16; what++) {
            counts.append(" count(").append(what).append(")=").append(what == 10 - number ? 1 : 0);
        }
        Script s = new Script(before, call, counts.toString());
        looked++;
        if (!s.wrong().isEmpty()) {
            fail("refused: " + call, s.wrong());
        }
        List<String> one = answers(before + " " + call, false);
        List<String> other = answers(before, false);
        if (!one.equals(other)) {
            fail("refused, nothing changes: " + call, difference(one, other));
        }
    }

    private static void same(String what, String one, String other) {
        looked++;
        List<String> its = answers(one, true);
        List<String> others = answers(other, true);
        if (!its.equals(others)) {
            fail(what, difference(its, others));
        }
    }

    private static void differs(String what, String one, String other) {
        looked++;
        if (answers(one, true).equals(answers(other, true))) {
            fail(what, "no answer differs");
        }
    }

    private static String difference(List<String> one, List<String> other) {
        for (int i = 0; i < one.size() && i < other.size(); i++) {
            if (!one.get(i).equals(other.get(i))) {
                return one.get(i) + ", and its twin: " + other.get(i);
            }
        }
        return one.size() + " answers, and its twin " + other.size();
    }

    private static List<String> answers(String before, boolean withRefusals) {
        Script s = new Script(before);
        int first = s.size();
        for (int what = 0; what <= (withRefusals ? 16 : 5); what++) {
            s.go("count(" + what + ")");
        }
        askBooks(s);
        askPayings(s);
        askState(s);
        if (!s.wrong().isEmpty()) {
            fail(before, s.wrong());
        }
        return s.from(first);
    }

    private static void askBooks(Script s) {
        for (int book = 0; book < 6; book++) {
            s.go("why(" + book + ",0,3) why(" + book + ",1,5) owes(" + book + ",7,15) together(" + book + ") kin(" + book + ")");
            s.go("ruleOf(" + book + ",0,2) ruleOf(" + book + ",2,2)");
            if (book > 0) {
                s.go("part(0," + book + ")");
            }
        }
        s.go("beside(true) beside(false)");
    }

    private static void askPayings(Script s) {
        for (int what = 0; what < 7; what++) {
            s.go("least(12,4," + what + ")");
        }
        for (int kind = 0; kind < 6; kind++) {
            s.go("byPutting(" + kind + ",0) byPutting(" + kind + ",1)");
        }
        s.go("soonest(9) soonest(400) needed(60,3) ring() stops() paid()");
    }

    /** This changes what it asks for, so it comes last. */
    private static void askState(Script s) {
        s.go("feasts(0) friends(0)");
        for (int book = 0; book < 6; book++) {
            s.go("lean(" + book + ",-1) mode(" + book + ",0)");
        }
        for (int kind = 0; kind < 6; kind++) {
            for (int what = 0; what < 4; what++) {
                s.go("paying(" + kind + "," + what + ",0)");
            }
        }
        s.go("judge() undone() rule(2) rule(3) ruleOf(2,0,0) ruleOf(2,0,2)");
    }
}
