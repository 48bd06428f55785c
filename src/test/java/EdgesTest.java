import java.util.HashSet;
import java.util.Set;

/**
 * Each boundary case that a sentence of the document names, in the order of the document, as a test of
 * its own on a new object (the calls are told at Script).
 */
public final class EdgesTest {
    private static final Set<String> NAMES = new HashSet<>();
    private static String place;
    private static int wrong;

    public static void main(String[] args) {
        Watch.start();
        life();
        books();
        texts();
        leaning();
        deeds();
        togetherness();
        kinds();
        feastsAndNights();
        leastHard();
        leastHardest();
        leastOfSeveral();
        soonest();
        needed();
        puttings();
        worthByPutting();
        rings();
        stops();
        judged();
        paid();
        besideAndPart();
        kin();
        theImage();
        refusals();
        promises1To8();
        promises9To14();
        promises15To21();
        promises22To30();
        extremes();
        System.out.println(NAMES.size() + " edges, " + wrong + " wrong");
        if (wrong != 0) {
            System.exit(1);
        }
    }

    private static void in(String where) {
        place = where;
    }

    private static void edge(String name, String... calls) {
        String full = place + ": " + name;
        Script s = new Script(calls);
        if (!NAMES.add(full)) {
            s.wrong().add("two edges of one name");
        }
        if (!s.wrong().isEmpty()) {
            wrong++;
            System.out.println(full);
            for (String line : s.wrong()) {
                System.out.println("    " + line);
            }
        }
    }

    private static void life() {
        in("What it is");
        edge("the 512th call answers, too", "511*rule(6) count(11)=511");
        edge("the 512th call changes, too", "11*done(0,0,false) 500*count(1)=11 done(0,0,true)=12");
    }

    private static void books() {
        in("Terms, BOOKS and RULES");
        edge("BOOK 0 is one", "write(0,a:1)=0");
        edge("BOOK 5 is one", "write(5,a:1)=0");
        edge("BOOK -1 is none", "write(-1,a:1)=-1");
        edge("BOOK 6 is none", "write(6,a:1)=-1");
        edge("the tenth RULE stands", "9*write(0,a:1) write(0,h:9)=9 ruleOf(0,9,0)=7 owes(0,7,0)=9 count(0)=10");
        edge("there is no eleventh", "10*write(0,a:1) write(0,h:9)=-6 count(0)=10 owes(0,7,0)=-9");
        edge("ten in each BOOK", "10*write(0,a:1) 10*write(1,a:1) 10*write(2,a:1) 10*write(3,a:1)=9",
            "10*write(4,a:1) 10*write(5,a:1)=9 count(0)=60");
        edge("in the order in which they came", "write(0,b:2) write(0,a:1) ruleOf(0,0,0)=1 ruleOf(0,1,0)=0");
        edge("a RULE twice are two", "write(0,a:1)=0 write(0,a:1)=1 count(0)=2");
        edge("each BOOK has its own", "write(0,a:1) owes(1,0,0)=-9 owes(5,0,0)=-9");
    }

    private static void texts() {
        in("Terms, TEXT and FAULT");
        edge("16 bytes are read", "type(abdmr:123aaaaaaa)=16 rule(0)=-29");
        edge("16 bytes of fault", "type(xxxxxxxxxxxxxxxx)=16 rule(0)=-20");
        edge("no 17th byte", "type(abdmr:123aaaaaaa)=16 feed(1,97)=-6");
        edge("the longest TEXT", "write(0,hbdmr:999)=0 ruleOf(0,0,0)=7 ruleOf(0,0,1)=15 ruleOf(0,0,2)=999");
        edge("the shortest TEXT", "write(0,a:0)=0 ruleOf(0,0,0)=0 ruleOf(0,0,1)=0 ruleOf(0,0,2)=0");
        edge("DEED a is the least", "write(0,a:1)=0 ruleOf(0,0,0)=0");
        edge("DEED h is the greatest", "write(0,h:1)=0 ruleOf(0,0,0)=7");
        edge("the sign before a", "write(0,`:1)=-20");
        edge("the sign behind h", "write(0,i:1)=-20");
        edge("a great A is no DEED", "write(0,A:1)=-20");
        edge("a MARK that is no DEED, first", "write(0,r:1)=-20 write(0,m:1)=-20");
        edge("a b behind the DEED is a MARK", "write(0,ab:1)=0 ruleOf(0,0,0)=0 ruleOf(0,0,1)=1");
        edge("a d behind the DEED is a MARK", "write(0,ad:1)=0 ruleOf(0,0,0)=0 ruleOf(0,0,1)=2");
        edge("a b behind DEED b", "write(0,bb:1)=0 ruleOf(0,0,0)=1 ruleOf(0,0,1)=1");
        edge("a d behind DEED d", "write(0,dd:1)=0 ruleOf(0,0,0)=3 ruleOf(0,0,1)=2");
        edge("a b alone is the DEED", "write(0,b:1)=0 ruleOf(0,0,0)=1 ruleOf(0,0,1)=0");
        edge("a d alone is the DEED", "write(0,d:1)=0 ruleOf(0,0,0)=3 ruleOf(0,0,1)=0");
        edge("another DEED's sign behind the DEED", "write(0,ac:1)=-21 write(0,aa:1)=-21");
        edge("MARK b is bit 1", "write(0,hb:1) ruleOf(0,0,1)=1");
        edge("MARK d is bit 2", "write(0,hd:1) ruleOf(0,0,1)=2");
        edge("MARK m is bit 4", "write(0,hm:1) ruleOf(0,0,1)=4");
        edge("MARK r is bit 8", "write(0,hr:1) ruleOf(0,0,1)=8");
        edge("MARKS with others left out between", "write(0,abr:1)=0 ruleOf(0,0,1)=9");
        edge("b twice", "write(0,abb:1)=-22");
        edge("d twice", "write(0,add:1)=-22");
        edge("m twice", "write(0,amm:1)=-22");
        edge("r twice", "write(0,arr:1)=-22");
        edge("b behind d", "write(0,adb:1)=-22");
        edge("d behind m", "write(0,amd:1)=-22");
        edge("m behind r", "write(0,arm:1)=-22");
        edge("a fifth MARK", "write(0,abdmrb:1)=-25");
        edge("no such MARK", "write(0,ax:1)=-21");
        edge("no sign between MARKS and DAYS", "write(0,a1)=-21 write(0,abdmr1)=-25");
        edge("two of it", "write(0,a::1)=-22");
        edge("the sign behind it in number", "write(0,a;1)=-21");
        edge("DAYS of 1 digit", "write(0,a:9)=0 ruleOf(0,0,2)=9");
        edge("DAYS of 2 digits", "write(0,a:10)=0 ruleOf(0,0,2)=10");
        edge("DAYS of 3 digits", "write(0,a:999)=0 ruleOf(0,0,2)=999");
        edge("DAYS of 4 digits", "write(0,a:1000)=-25");
        edge("4 digits with a 0 in front", "write(0,a:0001)=-25");
        edge("3 digits with a 0 in front", "write(0,a:007)=0 ruleOf(0,0,2)=7");
        edge("DAYS 000", "write(0,a:000)=0 owes(0,0,0)=0");
        edge("the sign before 0", "write(0,a:/)=-22");
        edge("the sign behind 9", "write(0,a:9:)=-23");
        edge("no number below 0", "write(0,a:-1)=-22");
        edge("something behind 1 digit", "write(0,a:1b)=-23");
        edge("something behind 2 digits", "write(0,a:12b)=-24");
        edge("something behind 3 digits", "write(0,a:123b)=-25");
        edge("all lacks", "rule(0)=-20");
        edge("all behind the DEED lacks", "write(0,a)=-21");
        edge("all behind one MARK lacks", "write(0,ab)=-22");
        edge("all behind four MARKS lacks", "write(0,abdmr)=-25");
        edge("DAYS lack", "write(0,a:)=-22");
        edge("DAYS lack behind four MARKS", "write(0,abdmr:)=-26");
        edge("the first of two faults", "write(0,axy:z)=-21");
        edge("a byte of 0 can not stand", "feed(5,0x31003A61)=5 rule(0)=-22");
        edge("a byte of 255 is no end", "feed(4,0xFF313A61)=4 rule(0)=-23");
        edge("a byte of 255 at the end of what lacks", "feed(3,0xFF3A61)=3 rule(0)=-22");
        edge("a sign with the eighth bit is another one", "feed(3,0x313AE1)=3 rule(0)=-20");
        edge("a FAULT leaves the BOOK", "write(0,a:1) write(0,a:x)=-22 count(0)=1 write(0,a:2)=1");
    }

    private static void leaning() {
        in("Terms, LEANS, MODES and OWES");
        edge("each BOOK leans on none at first", "lean(0,-1)=-1 lean(1,-1)=-1 lean(2,-1)=-1 lean(3,-1)=-1",
            "lean(4,-1)=-1 lean(5,-1)=-1");
        edge("each BOOK is SUM at first", "mode(0,0)=0 mode(1,0)=0 mode(2,0)=0 mode(3,0)=0 mode(4,0)=0 mode(5,0)=0");
        edge("the same MARKS", "write(0,abr:3) owes(0,0,9)=3");
        edge("MARKS more than the RULE's", "write(0,abr:3) owes(0,0,15)=3");
        edge("one MARK of the RULE lacks", "write(0,abr:3) owes(0,0,1)=-9 owes(0,0,8)=-9 owes(0,0,14)=-9");
        edge("a RULE without MARKS is for no MARKS", "write(0,a:3) owes(0,0,0)=3");
        edge("a RULE without MARKS is for all MARKS", "write(0,a:3) owes(0,0,15)=3");
        edge("a RULE of another DEED", "write(0,b:3) owes(0,0,0)=-9 owes(0,2,0)=-9");
        edge("the first RULE, though the second has more MARKS", "write(0,a:3) write(0,ab:4) owes(0,0,1)=3");
        edge("the first RULE, though the second has less DAYS", "write(0,a:3) write(0,a:2) owes(0,0,0)=3");
        edge("the second RULE, where the first is not for it", "write(0,ab:3) write(0,a:4) owes(0,0,0)=4");
        edge("the tenth RULE, where nine are not for it", "9*write(0,ab:3) write(0,a:4) owes(0,0,2)=4");
        edge("SILENT without RULES", "owes(0,0,15)=-9");
        edge("0 DAYS are not SILENT", "write(0,a:0) write(1,a:5) lean(0,1) owes(0,0,0)=0");
        edge("by the one on which it leans", "write(1,a:5) lean(0,1) owes(0,0,0)=5");
        edge("its own RULE is before that", "write(0,a:4) write(1,a:5) lean(0,1) owes(0,0,0)=4");
        edge("its own RULE of fewer MARKS is before that", "write(0,a:4) write(1,ab:5) lean(0,1) owes(0,0,1)=4");
        edge("a RULE that is not for it does not keep it back", "write(0,ab:4) write(1,a:5) lean(0,1) owes(0,0,0)=5");
        edge("not by one that leans on it", "write(1,a:5) lean(1,0) owes(0,0,0)=-9");
        edge("not by one on which it leans no more", "write(1,a:5) lean(0,1) lean(0,-1) owes(0,0,0)=-9");
        edge("and so on, to the sixth BOOK", "lean(0,1) lean(1,2) lean(2,3) lean(3,4) lean(4,5) write(5,a:5) owes(0,0,0)=5");
        edge("and so on, to none", "lean(0,1) lean(1,2) lean(2,3) lean(3,4) lean(4,5) owes(0,0,0)=-9");
        edge("the nearest of two", "lean(0,1) lean(1,2) write(1,a:4) write(2,a:5) owes(0,0,0)=4");
        edge("a ring of two without any", "lean(0,1) lean(1,0) owes(0,0,0)=-9 owes(1,0,0)=-9");
        edge("a ring of six without any", "lean(0,1) lean(1,2) lean(2,3) lean(3,4) lean(4,5) lean(5,0) owes(3,0,0)=-9");
        edge("a ring that does not come back to the BOOK", "lean(0,1) lean(1,2) lean(2,1) owes(0,0,0)=-9");
        edge("a ring with a RULE of the asked BOOK", "lean(0,1) lean(1,0) write(0,a:5) owes(0,0,0)=5");
        edge("a ring with a RULE of the other one", "lean(0,1) lean(1,0) write(1,a:5) owes(0,0,0)=5");
        edge("a ring of six with a RULE of the last",
            "lean(0,1) lean(1,2) lean(2,3) lean(3,4) lean(4,5) lean(5,0) write(2,a:5) owes(3,0,0)=5");
    }

    private static void deeds() {
        in("Terms, DONE");
        edge("twelve are done", "11*done(0,0,true) done(0,0,false)=12 count(1)=12");
        edge("no thirteenth", "12*done(0,0,true) done(0,0,true)=-6 count(1)=12");
        edge("all twelve are owed for", "write(0,a:1) write(0,b:100) 11*done(0,0,false) done(1,0,false) together(0)=111");
        edge("told: the DAYS once", "write(0,a:7) done(0,0,false) together(0)=7");
        edge("FOUND OUT: twice the DAYS", "write(0,a:7) done(0,0,true) together(0)=14");
        edge("FOUND OUT, 0 DAYS", "write(0,a:0) done(0,0,true) together(0)=0");
        edge("FOUND OUT doubles its own alone", "write(0,a:7) write(0,b:3) done(0,0,true) done(1,0,false) together(0)=17");
        edge("with the MARKS that it has", "write(0,ab:7) write(0,a:3) done(0,1,false) done(0,2,false) together(0)=10");
        edge("a DEED twice is owed for twice", "write(0,a:7) 2*done(0,0,false) together(0)=14");
        edge("by RULES that came behind it", "done(0,0,false) together(0)=0 write(0,a:7) together(0)=7");
    }

    private static void togetherness() {
        in("Terms, TOGETHER");
        edge("nothing done, SUM", "write(0,a:7) together(0)=0");
        edge("nothing done, HEAVIEST", "write(0,a:7) mode(0,1) together(0)=0");
        edge("nothing done, HALF", "write(0,a:7) mode(0,2) together(0)=0");
        edge("a SILENT one owes none, SUM", "write(0,a:7) done(0,0,false) done(1,0,true) together(0)=7");
        edge("a SILENT one owes none, HEAVIEST", "done(1,0,true) mode(0,1) together(0)=0");
        edge("a SILENT one owes none, HALF", "write(0,a:7) done(0,0,false) done(1,0,true) mode(0,2) together(0)=7");
        edge("all SILENT, SUM", "3*done(1,0,true) together(0)=0");
        edge("all SILENT, HALF", "3*done(1,0,true) mode(0,2) together(0)=0");
        edge("HEAVIEST: the greatest is the last", "write(0,a:7) write(0,b:9) done(0,0,false) done(1,0,false) mode(0,1) together(0)=9");
        edge("HEAVIEST: the greatest is the first", "write(0,a:9) write(0,b:7) done(0,0,false) done(1,0,false) mode(0,1) together(0)=9");
        edge("HEAVIEST: the greatest by being FOUND OUT",
            "write(0,a:9) write(0,b:5) done(0,0,false) done(1,0,true) mode(0,1) together(0)=10");
        edge("HEAVIEST: two greatest", "write(0,a:9) 2*done(0,0,false) mode(0,1) together(0)=9");
        edge("HALF: one alone", "write(0,a:9) done(0,0,false) mode(0,2) together(0)=9");
        edge("HALF: of an even sum", "write(0,a:9) write(0,b:6) done(0,0,false) done(1,0,false) mode(0,2) together(0)=12");
        edge("HALF: of an odd sum, cut", "write(0,a:9) write(0,b:7) done(0,0,false) done(1,0,false) mode(0,2) together(0)=12");
        edge("HALF: the sum is cut, not each of them",
            "write(0,a:9) write(0,b:7) done(0,0,false) 2*done(1,0,false) mode(0,2) together(0)=16");
        edge("HALF: of 1 none is left", "write(0,a:9) write(0,b:1) done(0,0,false) done(1,0,false) mode(0,2) together(0)=9");
        edge("HALF: one of two greatest is halved", "write(0,a:9) 2*done(0,0,false) mode(0,2) together(0)=13");
        edge("HALF: the greatest by being FOUND OUT",
            "write(0,a:9) write(0,b:5) done(0,0,false) done(1,0,true) mode(0,2) together(0)=14");
        edge("the MODE of the asked BOOK", "write(1,a:9) 2*done(0,0,false) lean(0,1) mode(1,1) together(0)=18 together(1)=9");
        edge("the most that can be owed", "write(5,h:999) 12*done(7,15,true) together(5)=23976");
    }

    private static void kinds() {
        in("Terms, KINDS");
        edge("WORTH 0", "paying(0,0,0)=10 paying(0,0,1)=0");
        edge("WORTH 99", "paying(5,0,99)=30 paying(5,0,1)=99");
        edge("HARDNESS 0", "paying(0,1,0)=5 paying(0,1,1)=0");
        edge("HARDNESS 99", "paying(5,1,99)=20 paying(5,1,1)=99");
        edge("A DAY 0", "paying(0,2,0)=1 paying(0,2,1)=0");
        edge("A DAY 9", "paying(5,2,9)=1 paying(5,2,1)=9");
        edge("STOCK 0", "paying(0,3,0)=999 paying(0,3,1)=0");
        edge("STOCK 999", "paying(5,3,999)=999 paying(5,3,1)=999");
        edge("FAST at first", "paying(0,0,0)=10 paying(0,1,0)=5 paying(0,2,0)=1 paying(0,3,0)=999");
        edge("PSALMS at first", "paying(1,0,0)=1 paying(1,1,0)=1 paying(1,2,0)=9 paying(1,3,0)=999");
        edge("COINS at first", "paying(2,0,0)=5 paying(2,1,0)=2 paying(2,2,0)=3 paying(2,3,0)=999");
        edge("NIGHTS at first", "paying(3,0,0)=8 paying(3,1,0)=6 paying(3,2,0)=1 paying(3,3,0)=999");
        edge("OTHERS at first", "paying(4,0,0)=10 paying(4,1,0)=1 paying(4,2,0)=0 paying(4,3,0)=999");
        edge("SHORT at first", "paying(5,0,0)=30 paying(5,1,0)=20 paying(5,2,0)=1 paying(5,3,0)=999");
        edge("no OTHERS without FRIENDS", "paying(4,2,9) row(4) judge()=0");
        edge("OTHERS with one FRIEND, A DAY 0", "friends(1) row(44) judge()=1");
        edge("OTHERS with one FRIEND, A DAY 9", "friends(1) paying(4,2,9) row(44444444444) judge()=10");
        edge("OTHERS with two FRIENDS, A DAY 2", "friends(2) paying(4,2,2) row(4444444) judge()=6");
        edge("OTHERS with 99 FRIENDS, A DAY 0", "friends(99) 100*put(4) judge()=99");
        edge("OTHERS with 99 FRIENDS, A DAY 9", "friends(99) only(4,1,1,9,999) least(99,1,4)=990 least(100,1,4)=-9");
        edge("FRIENDS add to OTHERS alone", "friends(99) row(00) judge()=1 row(2222) judge()=3 row(33) judge()=1 row(55) judge()=1");
    }

    private static void feastsAndNights() {
        in("Terms, FEASTS and NIGHTS");
        edge("none at first", "count(5)=0 row(05) judge()=-9");
        edge("no FAST on a FEAST", "feasts(1) row(0) judge()=0");
        edge("no SHORT on a FEAST", "feasts(1) row(5) judge()=0");
        edge("PSALMS on a FEAST", "feasts(1) row(1) judge()=-9");
        edge("COINS on a FEAST", "feasts(1) row(2) judge()=-9");
        edge("NIGHTS on a FEAST", "feasts(1) row(3) judge()=-9");
        edge("OTHERS on a FEAST", "feasts(1) friends(1) row(4) judge()=-9");
        edge("FAST on the DAY behind a FEAST", "feasts(1) row(90) judge()=-9");
        edge("FAST on the DAY before a FEAST", "feasts(2) row(0) judge()=-9");
        edge("bit 0 is DAY 0, not 1", "feasts(1) row(90) judge()=-9 row(0) judge()=0");
        edge("bit 27 is DAY 27", "feasts(0x8000000) 27*put(9) put(0) judge()=27");
        edge("bit 27 is not DAY 26", "feasts(0x8000000) 26*put(9) put(0) judge()=-9");
        edge("bit 27 is not DAY 28", "feasts(0x8000000) 28*put(9) put(0) judge()=-9");
        edge("DAY 28 is as DAY 0", "feasts(1) 28*put(9) put(0) judge()=28");
        edge("DAY 29 is as DAY 1", "feasts(1) 29*put(9) put(0) judge()=-9");
        edge("DAY 31 is not as DAY 0", "feasts(1) 31*put(9) put(0) judge()=-9");
        edge("DAY 32 is not as DAY 0", "feasts(1) 32*put(9) put(0) judge()=-9");
        edge("DAY 55 is as DAY 27", "feasts(0x8000000) 55*put(9) put(5) judge()=55");
        edge("DAY 84 is as DAY 0", "feasts(1) 84*put(9) put(5) judge()=84");
        edge("28 FEASTS: never", "feasts(0xFFFFFFF) 50*put(9) put(0) judge()=50");
        edge("a NIGHT on the DAY behind a NIGHT", "row(393) judge()=2");
        edge("a NIGHT on the DAY behind a SHORT", "row(593) judge()=2");
        edge("a NIGHT on the second DAY behind a NIGHT", "row(3993) judge()=-9");
        edge("a NIGHT on the second DAY behind a SHORT", "row(5993) judge()=-9");
        edge("a NIGHT on the DAY behind a FAST", "row(093) judge()=-9");
        edge("a NIGHT on the DAY behind all others", "friends(1) row(012493) judge()=-9");
        edge("a NIGHT and a SHORT on one DAY", "row(35) judge()=-9");
        edge("a SHORT and a NIGHT on one DAY", "row(53) judge()=-9");
        edge("two NIGHTS on one DAY", "paying(3,2,2) row(33) judge()=-9");
        edge("a NIGHT behind a DAY of two NIGHTS", "paying(3,2,2) row(3393) judge()=3");
        edge("a SHORT behind a NIGHT", "row(395) judge()=-9");
        edge("a SHORT behind a SHORT", "row(595) judge()=-9");
        edge("a SHORT behind a NIGHT bars the next DAY", "row(39593) judge()=4");
        edge("a NIGHT on DAY 0", "row(3) judge()=-9");
        edge("a NIGHT behind an empty DAY", "row(93) judge()=-9");
    }

    private static void leastHard() {
        in("Terms, LEAST HARD, ways");
        edge("0 DAYS", "least(0,1,0)=0 least(0,1,1)=0 least(0,1,2)=0 least(0,1,3)=0 least(0,1,4)=0 least(0,1,5)=0 least(0,1,6)=0");
        edge("0 DAYS with nothing to pay with", "only(0,10,5,1,0) least(0,400,6)=0 least(0,400,0)=0");
        edge("100 DAYS within 400", "least(100,400,6)=400 least(100,400,2)=200");
        edge("100 DAYS within 1 are too many", "least(100,1,6)=-9 least(100,1,0)=-9 least(100,1,5)=-9");
        edge("no way is -9 for each what", "only(0,10,5,1,0) least(1,400,0)=-9 least(1,400,1)=-9 least(1,400,2)=-9",
            "least(1,400,3)=-9 least(1,400,4)=-9 least(1,400,5)=-9 least(1,400,6)=-9");
        edge("as many as the STOCK", "only(2,10,1,9,5) least(5,1,2)=5");
        edge("one more than the STOCK", "only(2,10,1,9,5) least(6,1,2)=-9");
        edge("STOCK 999", "only(2,1,1,9,999) least(99,400,2)=990 least(100,400,2)=-9");
        edge("STOCK 999 and one more of another", "only(2,1,1,9,999) pay(1,1,1,9,1) least(100,400,2)=999 least(100,400,1)=1");
        edge("as many as A DAY times the DAYS", "only(2,10,1,3,999) least(6,2,2)=6");
        edge("one more than A DAY times the DAYS", "only(2,10,1,3,999) least(7,2,2)=-9");
        edge("A DAY 0", "only(2,10,1,0,999) least(1,400,2)=-9");
        edge("within 1", "only(2,10,1,1,999) least(1,1,2)=1 least(2,1,2)=-9");
        edge("within 400", "only(2,2,1,1,999) least(80,400,2)=400 least(81,400,2)=-9");
        edge("FAST not on a FEAST", "only(0,10,1,1,999) feasts(1) least(1,1,0)=-9 least(1,2,0)=1 least(2,2,0)=-9");
        edge("SHORT not on a FEAST", "only(5,10,1,1,999) feasts(1) least(1,1,5)=-9 least(1,2,5)=1 least(2,2,5)=-9");
        edge("from DAY 0 on", "only(0,10,1,1,999) feasts(2) least(1,1,0)=1 least(2,2,0)=-9 least(2,3,0)=2");
        edge("FEASTS within 28", "only(0,10,1,1,999) feasts(1) least(27,28,0)=27 least(28,28,0)=-9");
        edge("FEASTS again within 29", "only(0,10,1,1,999) feasts(1) least(27,29,0)=27 least(28,29,0)=-9");
        edge("FEASTS again within 30", "only(0,10,1,1,999) feasts(1) least(28,30,0)=28 least(29,30,0)=-9");
        edge("FEASTS all the time", "only(0,10,1,1,999) feasts(0xFFFFFFF) least(1,400,0)=-9");
        edge("NIGHTS within 1", "only(3,10,1,1,999) least(1,1,3)=1 least(2,1,3)=-9");
        edge("NIGHTS within 2", "only(3,10,1,1,999) least(1,2,3)=1 least(2,2,3)=-9");
        edge("NIGHTS within 3, rounded up", "only(3,10,1,1,999) least(2,3,3)=2 least(3,3,3)=-9");
        edge("NIGHTS within 400", "only(3,5,1,1,999) least(100,400,3)=200 least(100,398,3)=-9 least(100,399,3)=200");
        edge("NIGHTS, A DAY times half of all", "only(3,10,1,3,999) least(6,3,3)=6 least(7,3,3)=-9");
        edge("NIGHTS on FEASTS", "only(3,10,1,1,999) feasts(0xFFFFFFF) least(2,3,3)=2");
        edge("a SHORT on each DAY does not bar NIGHTS here", "only(3,10,1,1,999) pay(5,10,1,1,999) least(5,3,3)=2 least(5,3,5)=3 least(6,3,6)=-9");
        edge("PSALMS on all DAYS", "only(1,10,1,1,999) feasts(0xFFFFFFF) least(3,3,1)=3 least(4,3,1)=-9");
        edge("COINS on all DAYS", "only(2,10,1,1,999) feasts(0xFFFFFFF) least(3,3,2)=3 least(4,3,2)=-9");
        edge("OTHERS on all DAYS", "only(4,10,1,0,999) friends(1) feasts(0xFFFFFFF) least(3,3,4)=3 least(4,3,4)=-9");
        edge("OTHERS without FRIENDS", "only(4,10,1,9,999) least(1,400,4)=-9");
        edge("OTHERS with FRIENDS", "only(4,10,1,2,999) friends(2) least(12,2,4)=12 least(13,2,4)=-9");
        edge("OTHERS and their STOCK", "only(4,10,1,9,5) friends(99) least(5,1,4)=5 least(6,1,4)=-9");
        edge("WORTH 0 alone is no way", "only(2,0,0,9,999) least(1,400,2)=-9 least(1,400,6)=-9");
        edge("of WORTH 0 none", "only(2,0,0,9,999) pay(1,10,1,9,999) least(1,1,2)=0 least(1,1,1)=1");
        edge("of WORTH 0 none in a first KIND", "only(0,0,0,9,999) pay(1,10,0,9,999) least(1,1,0)=0 least(1,1,1)=1");
        edge("worth as much", "only(2,5,1,9,999) least(1,1,2)=2");
        edge("worth one tenth less is too little", "only(2,9,1,9,1) least(1,1,2)=-9");
        edge("worth more", "only(2,6,1,9,999) least(1,1,2)=2 least(1,1,6)=2");
        edge("worth far more", "only(2,99,7,9,999) least(1,1,2)=1 least(1,1,6)=7");
        edge("one KIND alone does not do, two do", "only(2,5,1,1,999) pay(1,5,1,1,999) least(1,1,1)=1 least(1,1,2)=1 least(1,1,6)=2");
        edge("all KINDS at once", "friends(1) least(8,1,0)=1 least(8,1,1)=7 least(8,1,2)=3 least(8,1,3)=1 least(8,1,4)=1 least(8,1,5)=1",
            "least(8,1,6)=45 least(9,1,6)=-9");
    }

    private static void leastHardest() {
        in("Terms, LEAST HARD, HARDNESS");
        edge("the softer of two", "only(1,10,3,9,9) pay(2,10,2,9,9) least(2,1,1)=0 least(2,1,2)=2 least(2,1,6)=4");
        edge("the softer one as far as it goes", "only(1,10,3,9,9) pay(2,10,2,9,1) least(2,1,1)=1 least(2,1,2)=1 least(2,1,6)=5");
        edge("more units that are less hard", "only(0,10,5,9,9) pay(1,1,0,9,99) least(2,3,1)=20 least(2,3,0)=0 least(2,3,6)=0");
        edge("not the softest for its worth first", "only(1,9,4,9,9) pay(2,5,3,9,9) least(1,1,1)=0 least(1,1,2)=2 least(1,1,6)=6");
        edge("more than owed is less hard", "only(1,10,4,9,9) pay(5,30,5,9,9) least(2,1,5)=1 least(2,1,1)=0 least(2,1,6)=5");
        edge("HARDNESS 0", "only(2,10,0,9,9) least(9,1,6)=0 least(9,1,2)=9");
        edge("the most HARDNESS", "only(2,1,99,9,999) pay(1,1,98,9,1) least(100,400,6)=98999");
        edge("asked again it is the same", "least(10,3,6)=51 least(1,1,6)=4 least(10,3,6)=51");
        edge("HARDNESS as it is now", "least(1,1,6)=4 paying(2,1,99) least(1,1,6)=5");
        edge("STOCK is not used up", "only(2,10,1,9,5) least(5,1,2)=5 least(5,1,2)=5 paying(2,3,0)=5");
    }

    private static void leastOfSeveral() {
        in("Terms, LEAST HARD, of several");
        edge("fewest FAST, then PSALMS", "only(0,10,1,9,9) pay(1,10,1,9,9) least(1,1,0)=0 least(1,1,1)=1");
        edge("fewest PSALMS, then COINS", "only(1,10,1,9,9) pay(2,10,1,9,9) least(1,1,1)=0 least(1,1,2)=1");
        edge("fewest COINS, then NIGHTS", "only(2,10,1,9,9) pay(3,10,1,9,9) least(1,1,2)=0 least(1,1,3)=1");
        edge("fewest NIGHTS, then OTHERS", "friends(1) only(3,10,1,9,9) pay(4,10,1,9,9) least(1,1,3)=0 least(1,1,4)=1");
        edge("fewest OTHERS, then SHORT", "friends(1) only(4,10,1,9,9) pay(5,10,1,9,9) least(1,1,4)=0 least(1,1,5)=1");
        edge("fewest FAST, though that makes more PSALMS",
            "only(0,20,2,9,9) pay(1,10,1,9,9) pay(5,30,3,9,9) least(6,1,0)=0 least(6,1,1)=0 least(6,1,5)=2");
        edge("fewest FAST, though that makes more units", "only(0,20,2,9,9) pay(1,10,1,9,9) least(4,1,0)=0 least(4,1,1)=4");
        edge("some FAST, where the others end", "only(0,10,1,9,9) pay(1,10,1,9,2) least(3,1,0)=1 least(3,1,1)=2");
        edge("fewest FAST of no HARDNESS", "only(0,10,0,9,9) pay(1,10,0,9,2) least(3,1,0)=1 least(3,1,1)=2");
        edge("no more than are needed of no HARDNESS", "only(5,10,0,9,9) least(3,1,5)=3");
        edge("no more of no HARDNESS than are needed beside the others",
            "only(1,10,0,9,9) pay(2,4,0,9,2) least(3,1,1)=3 least(3,1,2)=0 least(2,1,1)=2");
        edge("fewest FAST before least worth", "only(0,10,1,9,9) pay(1,20,1,9,9) least(1,1,0)=0 least(1,1,1)=1");
        edge("FAST equal, fewest PSALMS, then COINS",
            "only(0,10,1,9,1) pay(1,10,3,9,9) pay(2,10,3,9,9) least(3,1,0)=1 least(3,1,1)=0 least(3,1,2)=2");
    }

    private static void soonest() {
        in("Terms, SOONEST");
        edge("0 for nothing owed", "soonest(0)=0");
        edge("0 for nothing owed with nothing to pay with", "only(0,10,5,1,0) soonest(0)=0");
        edge("on the first DAY", "only(2,10,0,1,9) soonest(1)=1");
        edge("as much on the third DAY", "only(2,10,0,1,9) soonest(3)=3");
        edge("one tenth less on the third DAY", "only(2,10,0,1,9) paying(2,0,9) soonest(3)=4");
        edge("more than owed", "only(2,99,0,9,9) soonest(1)=1");
        edge("all of A DAY", "only(2,10,0,9,999) soonest(9)=1 soonest(10)=2");
        edge("on the 400th DAY", "only(2,10,0,1,999) soonest(400)=400");
        edge("not in 400", "only(2,9,0,1,999) soonest(360)=400 soonest(361)=-9");
        edge("never", "only(2,0,0,9,999) soonest(1)=-9");
        edge("STOCK does not do", "only(2,10,0,9,20) soonest(20)=3 soonest(21)=-9");
        edge("STOCK 999 does not do", "only(1,4,0,9,999) soonest(399)=111 soonest(400)=-9");
        edge("what is left of the STOCK", "only(2,10,0,9,10) soonest(10)=2");
        edge("STOCK is not used up", "only(2,10,0,9,10) soonest(10)=2 soonest(10)=2 paying(2,3,0)=10");
        edge("all KINDS on one DAY", "friends(1) soonest(8)=1 soonest(9)=2");
        edge("FAST not on FEASTS", "only(0,10,0,1,999) feasts(5) soonest(1)=2 soonest(2)=4");
        edge("SHORT not on FEASTS", "only(5,10,0,1,999) feasts(5) soonest(1)=2 soonest(2)=4");
        edge("PSALMS on FEASTS", "only(1,10,0,1,999) feasts(5) soonest(1)=1");
        edge("FEASTS again behind DAY 27", "only(0,10,0,1,999) feasts(1) soonest(27)=28 soonest(28)=30");
        edge("NIGHTS each second DAY", "only(3,10,0,1,999) soonest(1)=1 soonest(2)=3 soonest(3)=5");
        edge("NIGHTS on FEASTS", "only(3,10,0,1,999) feasts(0xFFFFFFF) soonest(2)=3");
        edge("NIGHTS before SHORT on DAY 0", "only(3,10,0,1,999) pay(5,10,0,1,999) soonest(2)=1 soonest(3)=2 soonest(4)=3");
        edge("SHORT bars NIGHTS on the DAY behind it", "only(3,10,0,1,999) pay(5,10,0,1,999) soonest(5)=4");
        edge("a FEAST keeps SHORT off, so NIGHTS may be behind it", "only(3,10,0,1,999) pay(5,10,0,1,999) feasts(4) soonest(4)=4 soonest(5)=4 soonest(6)=5");
        edge("SHORT without STOCK bars no more", "only(3,10,0,1,999) pay(5,10,0,1,2) soonest(4)=4 soonest(5)=6");
        edge("a SHORT of WORTH 0 is paid and bars, too", "only(3,10,0,1,999) pay(5,0,0,1,2) soonest(1)=1 soonest(2)=4");
        edge("a SHORT with A DAY 0 does not bar", "only(3,10,0,1,999) pay(5,10,0,0,999) soonest(2)=3");
        edge("a NIGHT of WORTH 0 bars the next", "only(3,0,0,1,999) soonest(1)=-9");
        edge("OTHERS without FRIENDS", "only(4,10,0,9,999) soonest(1)=-9");
        edge("OTHERS with FRIENDS", "only(4,10,0,1,999) friends(3) soonest(6)=1 soonest(7)=2");
    }

    private static void needed() {
        in("Terms, FRIENDS NEEDED");
        edge("none for nothing owed", "only(0,10,5,1,0) needed(0,1)=0");
        edge("none where it is done without", "only(2,10,0,1,999) needed(3,3)=0");
        edge("one where it is barely not done without", "only(2,10,0,1,999) pay(4,1,0,9,999) needed(4,3)=1");
        edge("one", "only(4,10,0,0,999) needed(1,1)=1");
        edge("99", "only(4,10,0,0,999) needed(99,1)=99");
        edge("100 are too many", "only(4,10,0,0,999) needed(100,1)=-9");
        edge("99 with A DAY 9", "only(4,1,0,9,999) needed(99,1)=99 needed(100,1)=-9 needed(100,2)=-9");
        edge("within the last DAY", "only(4,10,0,0,999) needed(6,3)=2 needed(7,3)=3 needed(6,2)=3");
        edge("A DAY and 1", "only(4,10,0,1,999) needed(4,1)=2 needed(5,1)=3");
        edge("STOCK is enough", "only(4,10,0,9,7) needed(7,1)=1");
        edge("STOCK is not enough", "only(4,10,0,9,7) needed(8,400)=-9");
        edge("WORTH 0", "only(4,0,0,9,999) needed(1,400)=-9");
        edge("not by the FRIENDS that there are", "only(4,10,0,0,999) friends(99) needed(2,1)=2");
        edge("the FRIENDS that there are stay", "only(4,10,0,0,999) friends(7) needed(2,1)=2 friends(0)=7");
        edge("with what else is paid", "only(4,10,0,0,999) pay(2,10,0,1,2) needed(5,3)=1 needed(6,3)=2");
        edge("on FEASTS, too", "only(4,10,0,0,999) feasts(0xFFFFFFF) needed(3,3)=1");
        edge("with what may be on FEASTS, again and again", "only(0,10,0,1,999) feasts(1) needed(27,28)=0 needed(28,29)=-9 needed(28,30)=0");
        edge("with NIGHTS each second DAY", "only(3,10,0,1,999) needed(2,3)=0 needed(2,2)=-9");
        edge("with NIGHTS that a SHORT bars", "only(3,10,0,1,999) pay(5,10,0,1,999) needed(4,3)=0 needed(5,3)=-9 needed(5,4)=0");
        edge("within 1, when it takes 2", "only(2,10,0,1,999) needed(2,1)=-9 needed(2,2)=0");
        edge("400 within 400", "only(2,10,0,1,999) needed(400,400)=0 needed(400,399)=-9");
        edge("more than 400 are not asked", "only(2,9,0,1,999) needed(360,400)=0 needed(361,400)=-9");
    }

    private static void puttings() {
        in("Terms, PUTTINGS OVER");
        edge("twelve", "11*over(0,1,1,1) over(4,1,5,1)=12 over(4,1,5,1)=-6 count(2)=12");
        edge("the twelfth stands", "11*over(1,1,2,1) over(0,1,5,7) byPutting(5,0)=7");
        edge("n 1 and m 1", "over(0,1,1,1)=1 byPutting(1,0)=1 byPutting(1,1)=1");
        edge("n 30", "over(0,30,1,1)=1 byPutting(1,0)=1 byPutting(1,1)=30");
        edge("m 30", "over(0,1,1,30)=1 byPutting(1,0)=30 byPutting(1,1)=1");
        edge("n 31", "over(0,31,1,1)=-6");
        edge("m 31", "over(0,1,1,31)=-6");
        edge("n 0", "over(0,0,1,1)=-4");
        edge("m 0", "over(0,1,1,0)=-4");
        edge("a KIND for itself", "over(0,1,0,1)=-1 over(5,1,5,1)=-1");
        edge("the same twice are two", "over(0,1,1,1)=1 over(0,1,1,1)=2");
    }

    private static void worthByPutting() {
        in("Terms, WORTH BY PUTTING");
        edge("FAST is 1 by 1", "byPutting(0,0)=1 byPutting(0,1)=1");
        edge("FAST is 1 by 1 with a ring by which it is less", "over(0,2,1,1) over(1,2,0,1) byPutting(0,0)=1 byPutting(0,1)=1");
        edge("none without any", "byPutting(1,0)=-9 byPutting(1,1)=-9 byPutting(5,0)=-9");
        edge("m by n", "over(0,2,1,3) byPutting(1,0)=3 byPutting(1,1)=2");
        edge("not the other way round", "over(1,2,0,3) byPutting(1,0)=-9");
        edge("no way from FAST", "over(0,1,1,1) over(3,1,4,1) byPutting(4,0)=-9 byPutting(3,0)=-9");
        edge("the last putting is the first of the way", "over(1,2,2,3) over(0,2,1,3) byPutting(2,0)=9 byPutting(2,1)=4");
        edge("in least terms", "over(0,30,1,12) byPutting(1,0)=2 byPutting(1,1)=5");
        edge("in least terms over two puttings", "over(0,2,1,3) over(1,3,2,4) byPutting(2,0)=2 byPutting(2,1)=1");
        edge("a whole number", "over(0,5,1,30) byPutting(1,0)=6 byPutting(1,1)=1");
        edge("the least of two between the same, the first", "over(0,1,1,2) over(0,1,1,3) byPutting(1,0)=2");
        edge("the least of two between the same, the last", "over(0,1,1,3) over(0,1,1,2) byPutting(1,0)=2");
        edge("the least FRACTION, not the least above the line", "over(0,3,1,2) over(0,5,1,3) byPutting(1,0)=3 byPutting(1,1)=5");
        edge("the least FRACTION, not the greatest below the line", "over(0,3,1,2) over(0,4,1,3) byPutting(1,0)=2 byPutting(1,1)=3");
        edge("the least FRACTION around", "over(0,5,2,4) over(0,4,1,3) over(1,1,2,1) byPutting(2,0)=3 byPutting(2,1)=4");
        edge("the least FRACTION straight", "over(0,3,2,2) over(0,4,1,3) over(1,1,2,1) byPutting(2,0)=2 byPutting(2,1)=3");
        edge("around is less", "over(0,1,2,9) over(0,1,1,2) over(1,1,2,2) byPutting(2,0)=4");
        edge("straight is less", "over(0,1,2,3) over(0,1,1,2) over(1,1,2,2) byPutting(2,0)=3");
        edge("no KIND twice", "over(0,1,1,1) over(1,30,2,1) over(2,30,1,1) byPutting(1,0)=1 byPutting(1,1)=1");
        edge("no KIND twice on the way to another", "over(0,1,1,1) over(1,30,2,1) over(2,30,1,1) over(1,1,3,1) byPutting(3,0)=1 byPutting(3,1)=1");
        edge("FAST not twice", "over(0,30,1,1) over(1,30,0,1) over(0,1,2,1) byPutting(2,0)=1 byPutting(2,1)=1");
        edge("a way to a KIND that is less, but has the next KIND already",
            "over(0,1,1,1) over(1,9,2,1) over(0,1,2,1) over(2,1,1,1) over(2,1,3,1) byPutting(3,0)=1 byPutting(3,1)=9",
            "over(1,1,4,1) over(4,1,2,1) over(2,1,5,1) byPutting(4,0)=1 byPutting(4,1)=1");
        edge("through all six, the least", "over(0,30,1,1) over(1,30,2,1) over(2,30,3,1) over(3,30,4,1) over(4,30,5,1)",
            "byPutting(5,0)=1 byPutting(5,1)=24300000");
        edge("through all six, the greatest", "over(0,1,1,30) over(1,1,2,30) over(2,1,3,30) over(3,1,4,30) over(4,1,5,30)",
            "byPutting(5,0)=24300000 byPutting(5,1)=1");
        edge("two long ways that are near to each other",
            "over(0,30,1,29) over(1,30,2,29) over(2,30,3,29) over(3,30,4,29) over(4,30,5,29)",
            "over(0,29,4,28) over(4,29,3,28) over(3,29,2,28) over(2,29,1,28) over(1,29,5,28)",
            "byPutting(5,0)=17210368 byPutting(5,1)=20511149");
        edge("two ways through the same KINDS, less than a hundred-millionth apart",
            "over(0,20,3,27) over(3,20,2,17) over(2,16,1,9) over(1,19,5,29) over(0,17,1,22) over(1,19,2,22) over(2,15,3,13) over(3,29,5,22)",
            "byPutting(5,0)=138424 byPutting(5,1)=140505");
        edge("two ways through other KINDS, less than a hundred-millionth apart",
            "over(0,16,3,27) over(3,20,1,17) over(1,20,2,9) over(2,19,5,29) over(0,19,2,22) over(2,17,3,13) over(3,29,4,22) over(4,15,5,22)",
            "byPutting(5,0)=138424 byPutting(5,1)=140505");
    }

    private static void rings() {
        in("Terms, RINGS and SHORTEST");
        edge("none without PUTTINGS", "ring()=-9");
        edge("one PUTTING is none", "over(0,30,1,1) ring()=-9");
        edge("there and not back", "over(0,30,1,1) over(1,30,2,1) ring()=-9");
        edge("two of the same way are none", "over(0,30,1,1) over(0,30,1,1) ring()=-9");
        edge("the product is 1", "over(0,3,1,2) over(1,2,0,3) ring()=-9");
        edge("the product is barely below 1", "over(0,30,1,30) over(1,30,0,29) ring()=2");
        edge("the product is barely above 1", "over(0,30,1,30) over(1,29,0,30) ring()=-9");
        edge("one half is above 1, the product is below", "over(0,1,1,3) over(1,4,0,1) ring()=2");
        edge("three", "over(0,2,1,1) over(1,1,2,1) over(2,1,0,1) ring()=3");
        edge("all six, barely", "over(0,30,1,30) over(1,30,2,30) over(2,30,3,30) over(3,30,4,30) over(4,30,5,30) over(5,30,0,29) ring()=6");
        edge("all six, as much as owed", "over(0,30,1,30) over(1,30,2,30) over(2,30,3,30) over(3,30,4,30) over(4,30,5,30) over(5,30,0,30) ring()=-9");
        edge("all six, the least product", "over(0,30,1,1) over(1,30,2,1) over(2,30,3,1) over(3,30,4,1) over(4,30,5,1) over(5,30,0,1) ring()=6");
        edge("all six, the greatest product", "over(0,1,1,30) over(1,1,2,30) over(2,1,3,30) over(3,1,4,30) over(4,1,5,30) over(5,1,0,30) ring()=-9");
        edge("without FAST", "over(4,2,5,1) over(5,1,4,1) ring()=2");
        edge("the fewest of two rings", "over(0,2,1,1) over(1,1,2,1) over(2,1,0,1) over(3,2,4,1) over(4,1,3,1) ring()=2");
        edge("the fewer one is no such ring", "over(0,2,1,1) over(1,1,2,1) over(2,1,0,1) over(3,1,4,1) over(4,1,3,1) ring()=3");
        edge("the better one of two between the same", "over(0,1,1,1) over(1,1,0,1) over(1,2,0,1) ring()=2");
        edge("two that are no rings, taken together", "over(0,1,1,1) over(1,1,0,1) over(0,1,2,1) over(2,1,0,1) ring()=-9");
        edge("what leads into a ring is not of it", "over(0,30,1,1) over(1,1,2,1) over(2,1,1,1) ring()=-9");
        edge("what leads out of a ring is not of it", "over(1,1,2,1) over(2,1,1,1) over(2,30,3,1) ring()=-9");
        edge("a ring with a way in and a way out", "over(0,1,1,1) over(1,2,2,1) over(2,1,1,1) over(2,1,3,1) ring()=2");
        edge("the twelfth makes it", "11*over(0,1,1,1) ring()=-9 over(1,2,0,1) ring()=2");
    }

    private static void stops() {
        in("Terms, STOPS");
        edge("none without PUTTINGS", "stops()=0");
        edge("none without a ring", "over(0,1,1,1) over(1,1,0,1) stops()=0");
        edge("the least bit of one ring", "over(0,2,1,1) over(1,1,0,1) stops()=1");
        edge("the least bit of a ring that has not the first", "over(3,1,4,1) over(0,2,1,1) over(1,1,0,1) stops()=2");
        edge("one for two rings", "over(0,2,1,1) over(1,1,0,1) over(1,1,2,1) over(2,1,0,1) stops()=1");
        edge("one for two rings, though it came last", "over(1,1,0,1) over(2,1,0,1) over(1,1,2,1) over(0,2,1,1) stops()=8");
        edge("one for each of two rings apart", "over(0,2,1,1) over(1,1,0,1) over(2,2,3,1) over(3,1,2,1) stops()=5");
        edge("the fewest before the least as bits", "2*over(0,1,1,1) over(1,2,0,1) stops()=4");
        edge("all of the same way", "2*over(0,2,1,1) 2*over(1,1,0,1) stops()=3");
        edge("what leads into a ring needs no stop", "over(0,30,1,1) over(1,1,2,1) over(2,1,1,1) stops()=0 over(1,2,2,1) stops()=4");
        edge("only what makes it less", "over(0,1,1,1) over(0,2,1,1) over(1,1,0,1) stops()=2");
        edge("the twelfth", "11*over(0,1,1,1) over(1,2,0,1) stops()=2048");
        edge("six of twelve", "6*over(0,2,1,1) 6*over(1,2,0,1) stops()=63");
        edge("a ring of six", "over(5,1,0,1) over(0,2,1,1) over(1,1,2,1) over(2,1,3,1) over(3,1,4,1) over(4,1,5,1) stops()=1");
        edge("nothing is taken away", "over(0,2,1,1) over(1,1,0,1) stops()=1 stops()=1 count(2)=2 ring()=2");
    }

    private static void judged() {
        in("Terms, JUDGED");
        edge("an empty row", "judge()=-9");
        edge("the first place", "row(6) judge()=0");
        edge("the last place of a hundred", "99*put(9) put(6) judge()=99");
        edge("a hundred that all may be", "100*put(9) judge()=-9");
        edge("the first of two", "row(0707) judge()=1");
        edge("KIND 0", "row(0) judge()=-9");
        edge("KIND 5", "row(5) judge()=-9");
        edge("6 is none of these", "row(6) judge()=0");
        edge("8 is none of these", "row(8) judge()=0");
        edge("9 is the end of a DAY", "row(09) judge()=-9");
        edge("10 is none of these", "put(10) judge()=0");
        edge("-1 is none of these", "put(-1) judge()=0");
        edge("-128 is none of these", "put(-128) judge()=0");
        edge("127 is none of these", "put(127) judge()=0");
        edge("FAST as many as A DAY", "paying(0,2,9) row(000000000) judge()=-9");
        edge("FAST above A DAY", "row(00) judge()=1");
        edge("PSALMS as many as A DAY", "row(111111111) judge()=-9");
        edge("PSALMS above A DAY", "row(1111111111) judge()=9");
        edge("COINS as many as A DAY", "row(222) judge()=-9");
        edge("COINS above A DAY", "row(2222) judge()=3");
        edge("NIGHTS above A DAY", "row(33) judge()=1");
        edge("OTHERS above A DAY", "friends(1) row(44) judge()=1");
        edge("SHORT above A DAY", "row(55) judge()=1");
        edge("A DAY 0", "paying(2,2,0) row(2) judge()=0");
        edge("A DAY is of each DAY", "row(222922292229222) judge()=-9");
        edge("A DAY is of each KIND", "row(210123) judge()=-9");
        edge("as many as the STOCK", "paying(2,3,4) row(222929) judge()=-9");
        edge("above the STOCK", "paying(2,3,4) row(2229229) judge()=5");
        edge("STOCK 0", "paying(2,3,0) row(2) judge()=0");
        edge("above the STOCK of OTHERS", "paying(4,3,2) friends(9) row(44494) judge()=2");
        edge("STOCK is whole for the next row", "paying(2,3,1) row(2) judge()=-9 row(2) judge()=-9 paying(2,3,0)=1");
        edge("the DAY is 0 for the next row", "feasts(1) row(90) judge()=-9 row(0) judge()=0");
        edge("nothing bars in the next row", "row(3) judge()=-9 row(3) judge()=-9 row(39) judge()=-9 row(3) judge()=-9");
        edge("WORTH 0 may be", "paying(2,0,0) row(2) judge()=-9");
        edge("the row has none then, all may be", "row(0) judge()=-9 count(4)=0");
        edge("the row has none then, one may not be", "row(0060) judge()=1 count(4)=0 judge()=-9");
        edge("100 bytes again behind it", "100*put(9) put(9)=-6 judge()=-9 put(9)=1");
    }

    private static void paid() {
        in("Terms, PAID");
        edge("an empty row", "paid()=0");
        edge("ends of DAYS alone", "row(999) paid()=0");
        edge("one unit", "row(5) paid()=30");
        edge("on several DAYS", "row(0901905) paid()=61");
        edge("WORTH 0", "paying(2,0,0) row(222) paid()=0");
        edge("WORTH 99", "paying(2,0,99) row(222) paid()=297");
        edge("the last may not be", "row(00) paid()=-9");
        edge("the first may not be", "row(60) paid()=-9");
        edge("the row stays", "row(0) paid()=10 count(4)=1 paid()=10");
        edge("the row stays, one may not be", "row(00) paid()=-9 count(4)=2 judge()=1");
        edge("as it may be now", "row(00) paid()=-9 paying(0,2,2) paid()=20 feasts(1) paid()=-9");
        edge("none behind JUDGED", "row(0) judge()=-9 paid()=0");
        edge("the row goes on", "row(0) paid()=10 row(1) paid()=11");
    }

    private static void besideAndPart() {
        in("Terms, BESIDE and PART");
        edge("nothing done: the least BOOK", "beside(false)=0 beside(true)=0");
        edge("all alike: the least BOOK", "write(0,a:1) write(1,a:1) write(2,a:1) write(3,a:1) write(4,a:1) write(5,a:1) done(0,0,false) beside(false)=0 beside(true)=0");
        edge("the last BOOK has most", "write(5,a:1) done(0,0,false) beside(true)=5 beside(false)=0");
        edge("the last BOOK has least", "write(0,a:1) write(1,a:1) write(2,a:1) write(3,a:1) write(4,a:1) done(0,0,false) beside(false)=5 beside(true)=0");
        edge("of several most the least", "write(2,a:1) write(4,a:1) done(0,0,false) beside(true)=2");
        edge("of several least the least", "write(0,a:1) write(2,a:1) done(0,0,false) beside(false)=1");
        edge("a SILENT one is as none owed", "write(0,a:0) done(0,0,false) beside(false)=0 beside(true)=0");
        edge("by the MODES", "write(0,a:1) write(1,a:1) mode(0,1) 2*done(0,0,false) beside(true)=1");
        edge("PART of empty BOOKS", "part(0,1)=-9 part(5,0)=-9");
        edge("PART of BOOKS alike", "write(0,a:1) write(1,a:1) part(0,1)=-9");
        edge("PART 0", "write(0,a:1) part(0,1)=0");
        edge("PART 127", "write(0,hbdmr:1) part(0,1)=127");
        edge("16 times the DEED", "write(0,b:1) part(0,1)=16");
        edge("and the MARKS", "write(0,bdr:1) part(0,1)=26");
        edge("the least of two", "write(0,b:1) write(0,ab:1) part(0,1)=1");
        edge("SILENT is unlike 0 DAYS", "write(0,a:0) part(0,1)=0 part(1,0)=0");
        edge("SILENT is like SILENT", "write(0,c:1) write(1,b:1) part(0,1)=16");
        edge("unlike DAYS", "write(0,a:1) write(1,a:2) part(0,1)=0");
        edge("unlike RULES of the same DAYS", "write(0,a:1) write(1,ab:1) write(1,a:1) part(0,1)=-9");
        edge("by leaning alike", "write(1,a:1) lean(0,1) part(0,1)=-9");
    }

    private static void kin() {
        in("Terms, KIN");
        edge("none has one, all empty", "kin(0)=-9");
        edge("none has one, it is empty", "write(0,a:1) kin(5)=-9");
        edge("none has one, all unlike", "write(0,a:1) write(1,b:1) kin(0)=-9");
        edge("one alike", "write(0,a:1) write(5,a:1) kin(0)=5 kin(5)=0");
        edge("not itself", "3*write(0,a:1) write(3,a:1) kin(0)=3");
        edge("another DEED", "write(0,a:1) write(1,b:1) kin(0)=-9");
        edge("other MARKS", "write(0,ab:1) write(1,ad:1) write(2,a:1) kin(0)=-9");
        edge("other DAYS", "write(0,a:1) write(1,a:2) write(2,a:10) kin(0)=-9");
        edge("the same DAYS written otherwise", "write(0,a:1) write(1,a:001) kin(0)=1");
        edge("in another place", "write(0,a:1) write(1,b:1) write(1,a:1) kin(0)=1");
        edge("the tenth RULE", "9*write(0,b:1) write(0,a:1) 9*write(1,c:1) write(1,a:1) kin(0)=1");
        edge("the most", "write(0,a:1) write(0,b:1) write(1,a:1) write(2,a:1) write(2,b:1) kin(0)=2");
        edge("of several the least", "write(0,a:1) write(2,a:1) write(4,a:1) kin(0)=2");
        edge("of this one: twice here, once there, are two",
            "2*write(0,a:1) write(0,b:1) write(1,b:1) write(2,a:1) kin(0)=2");
        edge("of this one: once here, twice there, are one",
            "write(0,a:1) write(1,a:1) 2*write(2,a:1) kin(0)=1");
        edge("leaning is no RULE", "write(1,a:1) lean(0,1) kin(0)=-9 kin(1)=-9");
    }

    private static void theImage() {
        in("Terms, THE IMAGE");
        edge("of an empty object", "image()=0 done(0,0,false) on()=0 count(1)=0");
        edge("of a RULE", "write(0,a:1) image() write(0,b:1) on() count(0)=1 ruleOf(0,1,0)=-1 owes(0,0,0)=1");
        edge("of all BOOKS", "image() write(0,a:1) write(5,a:1) on() count(0)=0 owes(5,0,0)=-9");
        edge("of leaning", "write(2,a:1) lean(0,2) image() lean(0,3) on() owes(0,0,0)=1 lean(0,-1)=2");
        edge("of MODES", "mode(5,2) image() mode(5,1) on() mode(5,0)=2");
        edge("of DONE, FOUND OUT and MARKS", "write(0,ab:5) done(0,1,true) image() undone() done(0,0,false) on()=1 together(0)=10");
        edge("of which DEEDS are DONE", "write(0,a:5) write(0,b:7) done(0,0,false) image() undone() done(1,0,false) on()=1 together(0)=5");
        edge("of twelve DONE", "write(0,a:1) 12*done(0,0,true) image()=12 undone() on()=12 together(0)=24");
        edge("of WORTH", "paying(5,0,7) image() paying(5,0,8) on() paying(5,0,0)=7");
        edge("of HARDNESS", "paying(5,1,7) image() paying(5,1,8) on() paying(5,1,0)=7");
        edge("of A DAY", "paying(5,2,7) image() paying(5,2,8) on() paying(5,2,0)=7");
        edge("of STOCK", "paying(5,3,7) image() paying(5,3,8) on() paying(5,3,0)=7");
        edge("of FAST", "image() paying(0,0,0) paying(0,3,0) on() paying(0,0,0)=10 paying(0,3,0)=999");
        edge("of FEASTS", "feasts(1) image() feasts(6) on() count(5)=1 row(0) judge()=0");
        edge("of FRIENDS", "friends(1) image() friends(2) on() friends(0)=1");
        edge("of PUTTINGS", "over(0,2,1,3) image() over(1,9,0,1) on() count(2)=1 ring()=-9 byPutting(1,0)=3");
        edge("THE TAPE stays, as it is behind the image", "type(a:) image() type(7) on() count(3)=3 rule(0)=0 owes(0,0,0)=7");
        edge("THE TAPE stays none", "type(a:7) image() rule(0) on() count(3)=0 rule(0)=-20");
        edge("REFUSALS stay", "image() rule(6) mode(0,3) friends(-1) friends(100) on() count(11)=1 count(12)=1 count(14)=1 count(16)=1");
        edge("REFUSALS of before stay", "on()=-3 image() on() count(13)=1");
        edge("the row stays, used up by JUDGED alone", "row(01) image() row(2) on() count(4)=3 paid()=16");
        edge("the row stays none", "row(01) image() judge() on() count(4)=0");
        edge("ON twice", "done(0,0,false) image() undone() on()=1 2*done(0,0,false) on()=1 count(1)=1");
        edge("the last image", "image() done(0,0,false) image()=1 undone() on()=1");
        edge("the last image of PAYINGS", "image() paying(0,0,1) feasts(1) friends(1) image() paying(0,0,2) feasts(3) friends(2) on()",
            "paying(0,0,0)=1 count(5)=1 friends(0)=1");
        edge("the last image of PUTTINGS", "image() over(0,1,1,3) image() over(0,1,1,2) on() count(2)=1 byPutting(1,0)=3");
        edge("the last image of BOOKS", "image() write(0,a:1) lean(1,0) mode(1,1) image() write(0,b:1) lean(1,2) mode(1,2) on()",
            "count(0)=1 owes(1,0,0)=1 lean(1,-1)=0 mode(1,0)=1");
        edge("a smaller image behind a greater", "write(0,a:1) image() on() write(0,b:2) image() write(0,c:3) on() count(0)=2 ruleOf(0,1,0)=1");
        edge("room again behind ON", "image() 12*done(0,0,false) 12*over(0,1,1,1) on() done(0,0,false)=1 over(0,1,1,1)=1");
    }

    private static void refusals() {
        in("Terms, REFUSALS");
        edge("none at first", "count(11)=0 count(12)=0 count(13)=0 count(14)=0 count(15)=0 count(16)=0");
        edge("-1 is counted at 11 alone", "rule(6)=-1 count(11)=1 count(12)=0 count(13)=0 count(14)=0 count(15)=0 count(16)=0");
        edge("-2 is counted at 12 alone", "mode(0,3)=-2 count(11)=0 count(12)=1 count(13)=0 count(14)=0 count(15)=0 count(16)=0");
        edge("-3 is counted at 13 alone", "on()=-3 count(11)=0 count(12)=0 count(13)=1 count(14)=0 count(15)=0 count(16)=0");
        edge("-4 is counted at 14 alone", "friends(-1)=-4 count(11)=0 count(12)=0 count(13)=0 count(14)=1 count(15)=0 count(16)=0");
        edge("-6 is counted at 16 alone", "friends(100)=-6 count(11)=0 count(12)=0 count(13)=0 count(14)=0 count(15)=0 count(16)=1");
        edge("-9 is none", "owes(0,0,0)=-9 why(0,0,0)=-9 least(100,1,6)=-9 byPutting(1,0)=-9 ring()=-9 judge()=-9 kin(0)=-9 count(99)=-9",
            "count(11)=0 count(12)=0 count(13)=0 count(14)=0 count(15)=0 count(16)=0");
        edge("a FAULT is none", "rule(0)=-20 write(0,a)=-21 count(11)=0 count(12)=0 count(13)=0 count(14)=0 count(15)=0 count(16)=0");
        edge("lean's -1 for none is none", "lean(0,-1)=-1 count(11)=0");
        edge("feed: -4 before -6", "type(aaaaaaaaaaaaaaaa) feed(0,0)=-4");
        edge("rule: -1 before -6", "10*write(0,a:1) rule(6)=-1 rule(-1)=-1");
        edge("rule: -6 before a FAULT", "10*write(0,a:1) write(0,x)=-6");
        edge("ruleOf: -1 of the BOOK before -2", "ruleOf(6,0,3)=-1");
        edge("ruleOf: -1 of the RULE before -2", "ruleOf(0,0,3)=-1");
        edge("mode: -1 before -2", "mode(6,3)=-1");
        edge("done: -1 before -6", "12*done(0,0,false) done(8,0,false)=-1 done(0,16,false)=-1");
        edge("paying: -1 before -2", "paying(6,4,1)=-1");
        edge("paying: -1 before -4", "paying(6,0,-1)=-1");
        edge("paying: -1 before -6", "paying(6,0,1000)=-1");
        edge("paying: -2 before -4", "paying(0,4,-1)=-2");
        edge("paying: -2 before -6", "paying(0,4,1000)=-2");
        edge("least: -2 before -4", "least(-1,0,7)=-2");
        edge("least: -2 before -6", "least(101,401,-1)=-2");
        edge("least: -4 of the DAYS before -6 of within", "least(-1,401,0)=-4");
        edge("least: -4 of within before -6 of the DAYS", "least(101,0,0)=-4");
        edge("needed: -4 of the DAYS before -6 of within", "needed(-1,401)=-4");
        edge("needed: -4 of within before -6 of the DAYS", "needed(401,0)=-4");
        edge("over: -1 before -4", "over(6,0,1,1)=-1 over(0,1,6,0)=-1 over(0,0,0,0)=-1");
        edge("over: -1 before -6", "over(6,31,1,1)=-1 over(0,31,0,31)=-1");
        edge("over: -4 of m before -6 of n", "over(0,31,1,0)=-4");
        edge("over: -4 of n before -6 of m", "over(0,0,1,31)=-4");
        edge("over: -1 and -4 before -6 of the room", "12*over(0,1,1,1) over(0,1,0,1)=-1 over(0,0,1,1)=-4");
        edge("byPutting: -1 before -2", "byPutting(6,2)=-1");
        edge("put: -4 before -6", "100*put(0) put(-129)=-4");
    }

    private static void promises1To8() {
        in("Promise 1");
        edge("empty BOOKS", "count(0)=0 ruleOf(0,0,0)=-1 ruleOf(5,0,0)=-1 owes(0,0,0)=-9 owes(5,7,15)=-9");
        edge("nothing DONE, no PUTTINGS, no TAPE, no row", "count(1)=0 count(2)=0 count(3)=0 count(4)=0 count(5)=0");
        edge("no FRIENDS", "friends(0)=0");
        edge("no image", "on()=-3");
        in("Promise 2");
        edge("n 1", "feed(1,97)=1 count(3)=1");
        edge("n 8", "feed(8,0x3130303A726D6462)=8 count(3)=8");
        edge("n 0", "feed(0,97)=-4 count(3)=0 count(14)=1");
        edge("n -1", "feed(-1,97)=-4 count(3)=0 count(14)=1");
        edge("the least n", "feed(-2147483648,97)=-4 count(3)=0");
        edge("n 9", "feed(9,97)=-6 count(3)=0 count(16)=1");
        edge("the greatest n", "feed(2147483647,97)=-6 count(3)=0");
        edge("16 is full", "feed(8,0)=8 feed(8,0)=16 feed(1,0)=-6 count(3)=16");
        edge("16 exactly, by one", "feed(8,0)=8 feed(7,0)=15 feed(1,0)=16");
        edge("17", "feed(8,0)=8 feed(7,0)=15 feed(2,0)=-6 count(3)=15 feed(1,0)=16");
        edge("the lowest first", "feed(3,0x313A62) rule(0)=0 ruleOf(0,0,0)=1");
        edge("the eighth is the highest", "feed(8,0x35343A726D646261)=8 rule(0)=0 ruleOf(0,0,2)=45");
        edge("the eighth above 127", "feed(8,-0xCBC58D929B9D9F)=8 rule(0)=-27");
        edge("no more than n come", "feed(3,0x3939313A61)=3 rule(0)=0 ruleOf(0,0,2)=1");
        edge("bytes below 0", "feed(8,-1)=8 rule(0)=-20");
        edge("behind what there is", "feed(1,97)=1 feed(1,58)=2 feed(1,55)=3 rule(0)=0 owes(0,0,0)=7");
        in("Promise 3");
        edge("the number of the first", "write(0,a:1)=0");
        edge("the number of the tenth", "9*write(0,a:1) write(0,a:1)=9");
        edge("numbers are of each BOOK", "write(0,a:1)=0 write(0,a:1)=1 write(3,a:1)=0");
        edge("THE TAPE has none", "write(0,a:1)=0 count(3)=0 rule(0)=-20");
        edge("THE TAPE has none behind a FAULT", "write(0,a:x)=-22 count(3)=0 rule(0)=-20");
        edge("a FAULT at 0", "write(0,x)=-20");
        edge("a FAULT at 9, the last there is", "write(0,abdmr:1234)=-29");
        edge("refused by -1, THE TAPE stays", "type(a:1) rule(6)=-1 rule(-1)=-1 count(3)=3 rule(0)=0");
        edge("refused by -6, THE TAPE stays", "10*write(0,a:1) type(b:2) rule(0)=-6 count(3)=3 rule(1)=0 owes(1,1,0)=2");
        edge("the least and the greatest BOOK of all", "type(a:1) rule(-2147483648)=-1 rule(2147483647)=-1 count(11)=2");
        in("Promise 4");
        edge("what 0, 1, 2", "write(5,gdm:120) ruleOf(5,0,0)=6 ruleOf(5,0,1)=6 ruleOf(5,0,2)=120");
        edge("what -1", "write(0,a:1) ruleOf(0,0,-1)=-2 count(12)=1");
        edge("what 3", "write(0,a:1) ruleOf(0,0,3)=-2 count(12)=1");
        edge("RULE -1", "write(0,a:1) ruleOf(0,-1,0)=-1 count(11)=1");
        edge("RULE behind the last", "write(0,a:1) ruleOf(0,1,0)=-1 count(11)=1");
        edge("RULE 9", "10*write(0,a:1) ruleOf(0,9,2)=1");
        edge("RULE 10", "10*write(0,a:1) ruleOf(0,10,0)=-1");
        edge("RULE of an empty BOOK", "ruleOf(0,0,0)=-1");
        edge("RULE of another BOOK", "write(1,a:1) ruleOf(0,0,0)=-1");
        edge("BOOK -1", "ruleOf(-1,0,0)=-1");
        edge("BOOK 6", "ruleOf(6,0,0)=-1");
        edge("by leaning there is none", "write(1,a:1) lean(0,1) ruleOf(0,0,0)=-1");
        in("Promise 5");
        edge("on BOOK 0", "lean(5,0)=-1 lean(5,-1)=0");
        edge("on BOOK 5", "lean(0,5)=-1 lean(0,-1)=5");
        edge("on none", "lean(0,-1)=-1 lean(0,1)=-1");
        edge("on itself", "lean(3,3)=-1 count(11)=1 lean(3,-1)=-1");
        edge("on itself changes nothing", "lean(3,2)=-1 lean(3,3)=-1 lean(3,-1)=2");
        edge("on -2", "lean(0,-2)=-1 count(11)=1");
        edge("on 6", "lean(0,6)=-1 count(11)=1");
        edge("BOOK -1", "lean(-1,0)=-1 count(11)=1");
        edge("BOOK -1 on none", "lean(-1,-1)=-1 count(11)=1");
        edge("BOOK 6", "lean(6,0)=-1 count(11)=1");
        edge("BOOK 6 on 6", "lean(6,6)=-1 count(11)=1");
        edge("on the same again", "lean(0,1)=-1 lean(0,1)=1 lean(0,-1)=1");
        in("Promise 6");
        edge("MODE 0", "mode(0,0)=0");
        edge("MODE 2", "mode(0,2)=0 mode(0,0)=2");
        edge("MODE -1", "mode(0,-1)=-2 count(12)=1");
        edge("MODE 3", "mode(0,3)=-2 count(12)=1");
        edge("BOOK -1", "mode(-1,0)=-1 count(11)=1");
        edge("BOOK 6", "mode(6,0)=-1 count(11)=1");
        edge("refused it changes nothing", "mode(0,1)=0 mode(0,3)=-2 mode(0,-1)=-2 mode(0,0)=1");
        edge("of one BOOK alone", "mode(0,1)=0 mode(1,0)=0 mode(5,0)=0");
        in("Promise 7");
        edge("DAYS 0", "write(0,a:0) owes(0,0,0)=0");
        edge("DAYS 999", "write(0,a:999) owes(0,0,0)=999");
        edge("DEED 0 and MARKS 0", "write(0,a:1) owes(0,0,0)=1");
        edge("DEED 7 and MARKS 15", "write(0,hbdmr:1) owes(0,7,15)=1");
        edge("DEED -1", "owes(0,-1,0)=-1 count(11)=1");
        edge("DEED 8", "owes(0,8,0)=-1 count(11)=1");
        edge("MARKS -1", "owes(0,0,-1)=-1 count(11)=1");
        edge("MARKS 16", "owes(0,0,16)=-1 count(11)=1");
        edge("BOOK -1", "owes(-1,0,0)=-1 count(11)=1");
        edge("BOOK 6", "owes(6,0,0)=-1 count(11)=1");
        in("Promise 8");
        edge("BOOK 0, RULE 0", "write(0,a:1) why(0,0,0)=0");
        edge("BOOK 0, RULE 9", "9*write(0,b:1) write(0,a:1) why(0,0,0)=9");
        edge("BOOK 5, RULE 9", "9*write(5,b:1) write(5,a:1) why(5,0,0)=59");
        edge("the BOOK on which it leans", "write(3,b:1) write(3,a:1) lean(0,3) why(0,0,0)=31");
        edge("the first RULE of two", "write(1,a:1) write(1,a:1) why(1,0,0)=10");
        edge("SILENT", "write(0,ab:1) why(0,0,0)=-9");
        edge("a ring", "lean(0,1) lean(1,0) why(0,0,0)=-9");
        edge("DEED -1", "why(0,-1,0)=-1 count(11)=1");
        edge("DEED 8", "why(0,8,0)=-1 count(11)=1");
        edge("MARKS -1", "why(0,0,-1)=-1 count(11)=1");
        edge("MARKS 16", "why(0,0,16)=-1 count(11)=1");
        edge("BOOK -1", "why(-1,0,0)=-1 count(11)=1");
        edge("BOOK 6", "why(6,0,0)=-1 count(11)=1");
    }

    private static void promises9To14() {
        in("Promise 9");
        edge("DEED 0, MARKS 0", "done(0,0,false)=1");
        edge("DEED 7, MARKS 15", "done(7,15,true)=1");
        edge("DEED -1", "done(-1,0,false)=-1 count(11)=1 count(1)=0");
        edge("DEED 8", "done(8,0,false)=-1 count(11)=1 count(1)=0");
        edge("MARKS -1", "done(0,-1,false)=-1 count(11)=1 count(1)=0");
        edge("MARKS 16", "done(0,16,false)=-1 count(11)=1 count(1)=0");
        edge("the twelfth", "11*done(0,0,true) done(0,0,true)=12");
        edge("the thirteenth", "12*done(0,0,true) done(0,0,true)=-6 count(16)=1");
        in("Promise 10");
        edge("none were", "undone()=0");
        edge("one was", "done(0,0,false) undone()=1 undone()=0 count(1)=0");
        edge("twelve were", "12*done(0,0,true) undone()=12 count(1)=0");
        edge("room again", "12*done(0,0,true) undone() 11*done(0,0,true) done(0,0,true)=12 done(0,0,true)=-6");
        edge("nothing is owed any more", "write(0,a:1) done(0,0,true) undone() together(0)=0");
        edge("it was FOUND OUT, now it is told", "write(0,a:1) done(0,0,true) undone() done(0,0,false) together(0)=1");
        in("Promise 11");
        edge("BOOK 0 and 5", "together(0)=0 together(5)=0");
        edge("BOOK -1", "together(-1)=-1 count(11)=1");
        edge("BOOK 6", "together(6)=-1 count(11)=1");
        in("Promise 12");
        edge("KIND -1", "paying(-1,0,0)=-1 count(11)=1");
        edge("KIND 6", "paying(6,0,0)=-1 count(11)=1");
        edge("what -1", "paying(0,-1,0)=-2 count(12)=1");
        edge("what 4", "paying(0,4,0)=-2 count(12)=1");
        edge("WORTH -1", "paying(0,0,-1)=-4 count(14)=1 paying(0,0,0)=10");
        edge("WORTH 100", "paying(0,0,100)=-6 count(16)=1 paying(0,0,0)=10");
        edge("HARDNESS -1", "paying(0,1,-1)=-4 count(14)=1 paying(0,1,0)=5");
        edge("HARDNESS 100", "paying(0,1,100)=-6 count(16)=1 paying(0,1,0)=5");
        edge("A DAY -1", "paying(0,2,-1)=-4 count(14)=1 paying(0,2,0)=1");
        edge("A DAY 10", "paying(0,2,10)=-6 count(16)=1 paying(0,2,0)=1");
        edge("A DAY 10 of OTHERS", "paying(4,2,10)=-6 paying(4,2,9)=0");
        edge("STOCK -1", "paying(0,3,-1)=-4 count(14)=1 paying(0,3,0)=999");
        edge("STOCK 1000", "paying(0,3,1000)=-6 count(16)=1 paying(0,3,0)=999");
        edge("of one KIND alone", "paying(2,3,5) paying(1,3,5)=999 paying(3,3,5)=999");
        edge("one number alone", "paying(2,3,5) paying(2,0,5)=5 paying(2,1,5)=2 paying(2,2,5)=3");
        in("Promise 13");
        edge("none", "feasts(0)=0 count(5)=0");
        edge("the least bit", "feasts(1)=1 count(5)=1");
        edge("the greatest bit", "feasts(0x8000000)=1 count(5)=1");
        edge("all 28", "feasts(0xFFFFFFF)=28 count(5)=28");
        edge("above 28 bits", "feasts(0x10000000)=-6 count(16)=1 count(5)=0");
        edge("the greatest of all", "feasts(2147483647)=-6 count(16)=1");
        edge("below 0", "feasts(-1)=-4 count(14)=1 count(5)=0");
        edge("the least of all", "feasts(-2147483648)=-4 count(14)=1");
        edge("they are put, not added", "feasts(3)=2 feasts(4)=1 count(5)=1");
        edge("refused they stay", "feasts(3) feasts(-1) feasts(0x10000000) count(5)=2");
        in("Promise 14");
        edge("0", "friends(0)=0 count(14)=0");
        edge("99", "friends(99)=0 friends(0)=99");
        edge("100", "friends(100)=-6 count(16)=1 friends(0)=0");
        edge("-1", "friends(-1)=-4 count(14)=1 friends(0)=0");
    }

    private static void promises15To21() {
        in("Promise 15");
        edge("what 0 .. 6", "least(10,3,0)=3 least(10,3,1)=0 least(10,3,2)=8 least(10,3,3)=0 least(10,3,4)=0 least(10,3,5)=1 least(10,3,6)=51");
        edge("what -1", "least(1,1,-1)=-2 count(12)=1");
        edge("what 7", "least(1,1,7)=-2 count(12)=1");
        edge("DAYS -1", "least(-1,1,0)=-4 count(14)=1");
        edge("DAYS 0", "least(0,1,6)=0");
        edge("DAYS 100", "least(100,400,6)=400");
        edge("DAYS 101", "least(101,400,6)=-6 count(16)=1");
        edge("within 0", "least(0,0,6)=-4 count(14)=1");
        edge("within 1", "least(1,1,6)=4");
        edge("within 400", "least(1,400,6)=4");
        edge("within 401", "least(1,401,6)=-6 count(16)=1");
        in("Promise 16");
        edge("DAYS -1", "soonest(-1)=-4 count(14)=1");
        edge("DAYS 0", "soonest(0)=0");
        edge("DAYS 400", "soonest(400)=63");
        edge("DAYS 401", "soonest(401)=-6 count(16)=1");
        edge("-9 is no refusal", "only(2,0,0,0,0) soonest(1)=-9 count(14)=0 count(16)=0");
        in("Promise 17");
        edge("DAYS -1", "needed(-1,1)=-4 count(14)=1");
        edge("DAYS 0", "needed(0,1)=0");
        edge("DAYS 400", "needed(400,63)=0 needed(400,62)=1");
        edge("DAYS 401", "needed(401,400)=-6 count(16)=1");
        edge("within 0", "needed(0,0)=-4 count(14)=1");
        edge("within 1", "needed(7,1)=0 needed(8,1)=1");
        edge("within 400", "needed(1,400)=0");
        edge("within 401", "needed(1,401)=-6 count(16)=1");
        in("Promise 18");
        edge("how many", "over(0,1,1,1)=1 over(5,1,0,1)=2 count(2)=2");
        edge("from -1", "over(-1,1,0,1)=-1 count(11)=1 count(2)=0");
        edge("from 6", "over(6,1,0,1)=-1 count(11)=1 count(2)=0");
        edge("to -1", "over(0,1,-1,1)=-1 count(11)=1 count(2)=0");
        edge("to 6", "over(0,1,6,1)=-1 count(11)=1 count(2)=0");
        edge("one KIND twice", "over(3,1,3,1)=-1 count(11)=1 count(2)=0");
        edge("n 0", "over(0,0,1,1)=-4 count(14)=1 count(2)=0");
        edge("m 0", "over(0,1,1,0)=-4 count(14)=1 count(2)=0");
        edge("n 31", "over(0,31,1,1)=-6 count(16)=1 count(2)=0");
        edge("m 31", "over(0,1,1,31)=-6 count(16)=1 count(2)=0");
        edge("the twelfth", "11*over(0,1,1,1) over(0,1,1,1)=12");
        edge("the thirteenth", "12*over(0,1,1,1) over(0,1,1,1)=-6 count(16)=1 count(2)=12");
        in("Promise 19");
        edge("FAST 1 by 1", "byPutting(0,0)=1 byPutting(0,1)=1");
        edge("KIND 5", "over(0,2,5,3) byPutting(5,0)=3 byPutting(5,1)=2");
        edge("KIND -1", "byPutting(-1,0)=-1 count(11)=1");
        edge("KIND 6", "byPutting(6,0)=-1 count(11)=1");
        edge("part -1", "byPutting(0,-1)=-2 count(12)=1");
        edge("part 2", "byPutting(0,2)=-2 count(12)=1");
        edge("none, both parts", "byPutting(1,0)=-9 byPutting(1,1)=-9");
        edge("a way that came behind the asking", "byPutting(1,0)=-9 over(0,1,1,3) byPutting(1,0)=3 over(0,1,1,2) byPutting(1,0)=2");
        edge("none any more behind ON", "image() over(0,1,1,3) byPutting(1,0)=3 on() byPutting(1,0)=-9");
        in("Promise 20");
        edge("none", "ring()=-9");
        edge("2, the fewest there can be", "over(0,2,1,1) over(1,1,0,1) ring()=2");
        edge("6, the most there can be", "over(0,1,1,1) over(1,1,2,1) over(2,1,3,1) over(3,1,4,1) over(4,1,5,1) over(5,2,0,1) ring()=6");
        edge("it stays no ring behind ON", "image() over(0,2,1,1) over(1,1,0,1) ring()=2 on() ring()=-9");
        in("Promise 21");
        edge("there is no ring", "over(0,30,1,1) stops()=0");
        edge("the least bits there can be", "over(0,2,1,1) over(1,1,0,1) stops()=1");
        edge("none behind ON", "image() over(0,2,1,1) over(1,1,0,1) stops()=1 on() stops()=0");
    }

    private static void promises22To30() {
        in("Promise 22");
        edge("-128", "put(-128)=1");
        edge("127", "put(127)=1");
        edge("-129", "put(-129)=-4 count(14)=1 count(4)=0");
        edge("128", "put(128)=-6 count(16)=1 count(4)=0");
        edge("no number is cut to a byte", "put(265)=-6 put(-247)=-4 put(256)=-6 put(-256)=-4 count(4)=0");
        edge("the least of all", "put(-2147483648)=-4");
        edge("the greatest of all", "put(2147483647)=-6");
        edge("the hundredth", "99*put(0) put(0)=100 count(4)=100");
        edge("the hundred and first", "100*put(0) put(0)=-6 count(16)=1 count(4)=100");
        in("Promise 23");
        edge("no row", "judge()=-9");
        edge("one byte", "row(0) judge()=-9 row(7) judge()=0");
        in("Promise 24");
        edge("no row", "paid()=0");
        edge("-9 is no refusal", "row(7) paid()=-9 count(11)=0 count(12)=0");
        in("Promise 25");
        edge("least and most", "write(0,a:2) write(1,a:1) write(2,a:3) lean(3,0) lean(4,0) lean(5,0) done(0,0,false) beside(false)=1 beside(true)=2");
        in("Promise 26");
        edge("one twice", "part(0,0)=-1 part(5,5)=-1 count(11)=2");
        edge("one -1", "part(-1,0)=-1 count(11)=1");
        edge("one 6", "part(6,0)=-1 count(11)=1");
        edge("other -1", "part(0,-1)=-1 count(11)=1");
        edge("other 6", "part(0,6)=-1 count(11)=1");
        edge("BOOKS 0 and 5", "part(0,5)=-9 part(5,0)=-9 count(11)=0");
        in("Promise 27");
        edge("BOOK -1", "kin(-1)=-1 count(11)=1");
        edge("BOOK 6", "kin(6)=-1 count(11)=1");
        edge("BOOK 0 is one", "write(0,a:1) write(1,a:1) kin(1)=0");
        in("Promise 28");
        edge("none done", "image()=0");
        edge("twelve done", "12*done(0,0,false) image()=12");
        edge("it changes nothing", "done(0,0,false) image()=1 count(1)=1 image()=1");
        in("Promise 29");
        edge("there is none", "on()=-3 count(13)=1");
        edge("there is none, nothing changes", "done(0,0,false) on()=-3 count(1)=1");
        edge("there is one", "image() on()=0 on()=0 count(13)=0");
        in("Promise 30");
        edge("0 RULES of all BOOKS", "write(0,a:1) write(5,a:1) count(0)=2");
        edge("1 DEEDS DONE", "2*done(0,0,false) count(1)=2");
        edge("2 PUTTINGS", "2*over(0,1,1,1) count(2)=2");
        edge("3 bytes on THE TAPE", "feed(2,0) count(3)=2");
        edge("4 bytes of the row", "2*put(0) count(4)=2");
        edge("5 FEASTS", "feasts(0x8000001) count(5)=2");
        edge("another what", "count(-1)=-9 count(6)=-9 count(10)=-9 count(17)=-9");
        edge("the least and the greatest what", "count(-2147483648)=-9 count(2147483647)=-9");
        edge("another what is no refusal", "count(-1) count(6) count(17) count(12)=0 count(11)=0");
    }

    private static void extremes() {
        in("The least and the greatest int");
        edge("rule, BOOK", "rule(-2147483648)=-1 rule(2147483647)=-1 count(11)=2");
        edge("ruleOf, BOOK", "write(0,a:1) ruleOf(-2147483648,0,0)=-1 ruleOf(2147483647,0,0)=-1 count(11)=2");
        edge("ruleOf, RULE", "write(0,a:1) ruleOf(0,-2147483648,0)=-1 ruleOf(0,2147483647,0)=-1 count(11)=2");
        edge("ruleOf, what", "write(0,a:1) ruleOf(0,0,-2147483648)=-2 ruleOf(0,0,2147483647)=-2 count(12)=2");
        edge("lean, BOOK", "lean(-2147483648,1)=-1 lean(2147483647,1)=-1 count(11)=2");
        edge("lean, other", "lean(0,-2147483648)=-1 lean(0,2147483647)=-1 count(11)=2");
        edge("mode, BOOK", "mode(-2147483648,1)=-1 mode(2147483647,1)=-1 count(11)=2");
        edge("mode, MODE", "mode(0,-2147483648)=-2 mode(0,2147483647)=-2 count(12)=2");
        edge("owes, BOOK", "owes(-2147483648,0,0)=-1 owes(2147483647,0,0)=-1 count(11)=2");
        edge("owes, DEED", "owes(0,-2147483648,0)=-1 owes(0,2147483647,0)=-1 count(11)=2");
        edge("owes, MARKS", "owes(0,0,-2147483648)=-1 owes(0,0,2147483647)=-1 count(11)=2");
        edge("why, BOOK", "why(-2147483648,0,0)=-1 why(2147483647,0,0)=-1 count(11)=2");
        edge("why, DEED", "why(0,-2147483648,0)=-1 why(0,2147483647,0)=-1 count(11)=2");
        edge("why, MARKS", "why(0,0,-2147483648)=-1 why(0,0,2147483647)=-1 count(11)=2");
        edge("done, DEED", "done(-2147483648,0,true)=-1 done(2147483647,0,true)=-1 count(11)=2");
        edge("done, MARKS", "done(0,-2147483648,true)=-1 done(0,2147483647,true)=-1 count(11)=2");
        edge("together, BOOK", "together(-2147483648)=-1 together(2147483647)=-1 count(11)=2");
        edge("paying, KIND", "paying(-2147483648,0,1)=-1 paying(2147483647,0,1)=-1 count(11)=2");
        edge("paying, what", "paying(0,-2147483648,1)=-2 paying(0,2147483647,1)=-2 count(12)=2");
        edge("paying, number", "paying(0,0,-2147483648)=-4 paying(0,0,2147483647)=-6 count(14)=1 count(16)=1");
        edge("friends, FRIENDS", "friends(-2147483648)=-4 friends(2147483647)=-6 count(14)=1 count(16)=1");
        edge("least, DAYS", "least(-2147483648,1,0)=-4 least(2147483647,1,0)=-6 count(14)=1 count(16)=1");
        edge("least, within", "least(1,-2147483648,0)=-4 least(1,2147483647,0)=-6 count(14)=1 count(16)=1");
        edge("least, what", "least(1,1,-2147483648)=-2 least(1,1,2147483647)=-2 count(12)=2");
        edge("soonest, DAYS", "soonest(-2147483648)=-4 soonest(2147483647)=-6 count(14)=1 count(16)=1");
        edge("needed, DAYS", "needed(-2147483648,1)=-4 needed(2147483647,1)=-6 count(14)=1 count(16)=1");
        edge("needed, within", "needed(1,-2147483648)=-4 needed(1,2147483647)=-6 count(14)=1 count(16)=1");
        edge("over, from", "over(-2147483648,1,1,1)=-1 over(2147483647,1,1,1)=-1 count(11)=2");
        edge("over, n", "over(0,-2147483648,1,1)=-4 over(0,2147483647,1,1)=-6 count(14)=1 count(16)=1");
        edge("over, to", "over(0,1,-2147483648,1)=-1 over(0,1,2147483647,1)=-1 count(11)=2");
        edge("over, m", "over(0,1,1,-2147483648)=-4 over(0,1,1,2147483647)=-6 count(14)=1 count(16)=1");
        edge("byPutting, KIND", "byPutting(-2147483648,0)=-1 byPutting(2147483647,0)=-1 count(11)=2");
        edge("byPutting, part", "byPutting(0,-2147483648)=-2 byPutting(0,2147483647)=-2 count(12)=2");
        edge("part, one", "part(-2147483648,1)=-1 part(2147483647,1)=-1 count(11)=2");
        edge("part, other", "part(0,-2147483648)=-1 part(0,2147483647)=-1 count(11)=2");
        edge("kin, BOOK", "kin(-2147483648)=-1 kin(2147483647)=-1 count(11)=2");
    }
}
