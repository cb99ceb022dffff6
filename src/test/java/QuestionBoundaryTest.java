/** Boundary cases that promises 19 to 47 name, each on both sides, with answers worked out by hand. */
public final class QuestionBoundaryTest extends Checks {
    private static final int[] FAR_OFF = {LOW, LOW + 1, -2, HIGH - 1, HIGH};

    public static void main(String[] args) {
        time();
        spread();
        spreadRules();
        code();
        distance();
        nearest();
        joint();
        odds();
        likeliest();
        ranked();
        hold();
        holdOfAll();
        minimal();
        weakest();
        ordered();
        sure();
        busiest();
        groups();
        group();
        reduced();
        ask();
        cuts();
        explains();
        best();
        cover();
        ofCause();
        ofSign();
        ofObject();
        ofRule();
        count();
        countOfRefused();
        status();
        questionsChangeNothing();
        allFull();
        report("QuestionBoundaryTest");
    }

    private static void time() {
        promise(19, "the TIME of a FACT. -2 it does not come. NONE (no such CAUSES, OBJECT, EVENT)");
        CauseBook x = star();
        due("all CAUSES", x.time(7, 3, 1), 2);
        none("more than all", x.time(8, 3, 1));
        none("one less than none", x.time(-1, 3, 1));
        due("no CAUSES: it does not come", x.time(0, 3, 1), -2);
        due("the last OBJECT", x.time(7, 5, 1), 2);
        none("one more OBJECT", x.time(7, 6, 1));
        none("OBJECT -1", x.time(7, -1, 1));
        due("the last EVENT does not come", x.time(7, 5, 7), -2);
        none("EVENT 8", x.time(7, 5, 8));
        none("EVENT -1", x.time(7, 5, -1));
        for (int far : FAR_OFF) {
            none("CAUSES " + far, x.time(far, 0, 0));
            none("OBJECT " + far, x.time(1, far, 0));
            none("EVENT " + far, x.time(1, 0, far));
        }
        x = objects(0);
        due("no CAUSES at all", x.time(0, 0, 0), -2);
        none("no such CAUSE", x.time(1, 0, 0));
        none("no OBJECTS", new CauseBook().time(0, 0, 0));
        x = crowd();
        due("twelve", x.time(4095, 5, 1), 0);
        none("a thirteenth", x.time(4096, 5, 1));
        none("a thirteenth with others", x.time(4097, 5, 1));
    }

    private static void spread() {
        promise(20, "FACTS (what 0), the latest TIME (1; 0 of none), OBJECTS (2), RULES (3). NONE (no such CAUSES; others)");
        CauseBook x = star();
        int[] ofAll = {6, 2, 6, 1};
        int[] ofTwo = {2, 2, 2, 1};
        for (int what = 0; what < 4; what++) {
            due("of all, " + what, x.spread(7, what), ofAll[what]);
            due("of the last, " + what, x.spread(4, what), ofTwo[what]);
            due("of none, " + what, x.spread(0, what), 0);
            none("of more than all, " + what, x.spread(8, what));
            none("of -1, " + what, x.spread(-1, what));
        }
        none("what 4", x.spread(7, 4));
        none("what -1", x.spread(7, -1));
        none("what 4 of none", x.spread(0, 4));
        for (int far : FAR_OFF) {
            none("CAUSES " + far, x.spread(far, 0));
            none("what " + far, x.spread(1, far));
        }
        x = new CauseBook();
        due("nothing is there", x.spread(0, 0), 0);
        due("nothing is there: latest", x.spread(0, 1), 0);
        none("nothing is there: no such CAUSES", x.spread(1, 0));
        x = crowd();
        due("of twelve", x.spread(4095, 0), 12);
        due("of twelve: latest", x.spread(4095, 1), 0);
        due("of twelve: objects", x.spread(4095, 2), 6);
        due("of the twelfth", x.spread(2048, 0), 1);
        none("of a thirteenth", x.spread(4096, 0));
    }

    private static void spreadRules() {
        promise(20, "which RULES bring any of them at its TIME, as bits (3)");
        CauseBook x = objects(0);
        x.cause(0, 0, 1);
        x.rule(0, 0, 0, 1, 5);
        due("it brings it", x.spread(1, 3), 1);
        x.rule(0, 0, 0, 1, 6);
        due("one later than its TIME does not", x.spread(1, 3), 1);
        x.rule(0, 0, 0, 1, 5);
        due("another at its TIME does", x.spread(1, 3), 5);
        x.rule(0, 0, 0, 1, 4);
        due("an earlier one alone", x.spread(1, 3), 8);
        x.rule(0, 2, 0, 3, 0);
        due("one whose FACT does not come brings none", x.spread(1, 3), 8);
        for (int i = 5; i < 11; i++) {
            x.rule(0, 2, 0, 3, 0);
        }
        x.rule(0, 1, 0, 2, 9);
        due("the last of twelve, and those that come of it", x.spread(1, 3), 8 + 16 + 4064);
        x = objects(0, 0, 1, 1);
        x.cause(0, 0, 1);
        x.link(0, 0, 2);
        x.link(0, 1, 3);
        x.rule(1, 0, 0, 8, 3);
        x.rule(0, 8, 0, 8 + 1, 0);
        x.rule(1, 0, 0, 8 + 1, 2);
        // EVENT 1 comes at 2 by RULE 2, by RULE 1 at 3 only
        due("by another RULE earlier", x.spread(1, 3), 5);
        x.cut(0);
        due("of an OBJECT from which no LINK leads", x.spread(1, 3), 0);
        for (int sort = 0; sort < 5; sort++) {
            x = objects(0, 1);
            x.cause(1, 0, 1);
            x.rule(sort, 0, 0, 8, 0);
            due("one without DELAY that brings none, sort " + sort, x.spread(1, 3), 0);
        }
    }

    private static void code() {
        promise(21, "CODE of a set of CAUSES, as bits. NONE (no such CAUSES)");
        CauseBook x = star();
        due("of none", x.code(0), 0);
        due("of all", x.code(7), 7);
        none("of more", x.code(8));
        none("of -1", x.code(-1));
        for (int far : FAR_OFF) {
            none("of " + far, x.code(far));
        }
        x = wide();
        due("of the last", x.code(2), 4032);
        due("of both", x.code(3), 4095);
        none("of more", x.code(4));
        x = new CauseBook();
        due("of none, nothing is there", x.code(0), 0);
        none("of one, nothing is there", x.code(1));
        due("of twelve", crowd().code(4095), 0);
        none("of a thirteenth", crowd().code(4096));
    }

    private static void distance() {
        promise(22, "DISTANCE (what 0), APART (1); other NONE: the empty set. NONE (no such CAUSE; others)");
        CauseBook x = star();
        x.book(6);
        due("the last two", x.distance(2, 1, 0), 1);
        due("the last two, APART", x.distance(1, 2, 1), 1);
        due("the first and the last", x.distance(0, 2, 0), 2);
        due("the first and the last, APART", x.distance(0, 2, 1), 3);
        due("from the empty set", x.distance(0, NONE, 0), 1);
        due("from the empty set, APART", x.distance(0, NONE, 1), 2);
        due("from itself", x.distance(2, 2, 0), 0);
        for (int what = 0; what < 2; what++) {
            none("one more", x.distance(3, 0, what));
            none("NONE is no CAUSE", x.distance(NONE, 0, what));
            none("NONE is no CAUSE", x.distance(NONE, NONE, what));
            none("from one more", x.distance(0, 3, what));
            none("from -2", x.distance(0, -2, what));
        }
        none("what 2", x.distance(0, 1, 2));
        none("what -1", x.distance(0, 1, -1));
        for (int far : FAR_OFF) {
            none("cause " + far, x.distance(far, 0, 0));
            none("other " + far, x.distance(0, far, 0));
            none("what " + far, x.distance(0, 0, far));
        }
        none("no CAUSES", coded(2).distance(0, NONE, 0));
        due("twelve SIGNS", wide().distance(0, 1, 0), 12);
    }

    private static void nearest() {
        promise(23, "NONE without CAUSES, others; others than NEAREST there are none");
        CauseBook x = star();
        x.see(6);
        int[] want = {0, 1, 1, 2, 1};
        for (int what = 0; what < 5; what++) {
            due("nearest(" + what + ")", x.nearest(what), want[what]);
            none("no CAUSES: " + what, coded(2).nearest(what));
            none("nothing is there: " + what, new CauseBook().nearest(what));
        }
        none("nearest(5)", x.nearest(5));
        none("nearest(-1)", x.nearest(-1));
        for (int far : FAR_OFF) {
            none("nearest(" + far + ")", x.nearest(far));
        }
        x = coded(2, 3);
        due("one CAUSE", x.nearest(3), 1);
        due("its DISTANCE", x.nearest(0), 2);
        none("one CAUSE: no others", x.nearest(4));
        x = coded(2, 1, 2);
        due("both are NEAREST", x.nearest(1), 2);
        due("the first", x.nearest(2), 0);
        none("both: no others", x.nearest(4));
        x.see(2);
        due("the other one", x.nearest(2), 1);
        due("the others", x.nearest(4), 2);
        x = crowd();
        due("twelve", x.nearest(1), 12);
        due("twelve, as bits", x.nearest(3), 4095);
        none("twelve: no others", x.nearest(4));
        x = wide();
        x.see(63);
        due("at 0", x.nearest(0), 0);
        due("the other at 12", x.nearest(4), 12);
    }

    private static void joint() {
        promise(24, "which (what 0), DISTANCE (1), how many sets (2). NONE without CAUSES, others");
        CauseBook x = star();
        x.see(5);
        // 3, 6, 4 are at 2, 2, 1; of two 7, 7, 6 at 1, 1, 2; of three 7 at 1
        int[][] want = {{4, 1, 1}, {4, 1, 3}, {4, 1, 4}};
        for (int n = 1; n <= 3; n++) {
            for (int what = 0; what < 3; what++) {
                due("joint(" + n + ", " + what + ")", x.joint(n, what), want[n - 1][what]);
                none("no CAUSES", coded(2).joint(n, what));
            }
            none("what 3", x.joint(n, 3));
            none("what -1", x.joint(n, -1));
        }
        for (int what = 0; what < 3; what++) {
            none("n 0", x.joint(0, what));
            none("n 4", x.joint(4, what));
            none("n -1", x.joint(-1, what));
        }
        for (int far : FAR_OFF) {
            none("n " + far, x.joint(far, 0));
            none("what " + far, x.joint(1, far));
        }
        x = coded(3, 5);
        due("one CAUSE, n 1", x.joint(1, 2), 1);
        due("one CAUSE, n 3", x.joint(3, 2), 1);
        x = coded(3, 1, 2);
        x.see(3);
        due("two CAUSES, n 3", x.joint(3, 0) * 10 + x.joint(3, 2), 31);
        x = crowd();
        due("twelve, by 1", x.joint(1, 2), 12);
        due("twelve, by 2", x.joint(2, 2), 78);
        due("twelve, by 3", x.joint(3, 2), 298);
        due("the least", x.joint(3, 0), 1);
        x.rule(0, 1, 0, 2, 0);
        x.see(1 << 10 | 1 << 8 | 1 << 6);
        due("the last three that bring one each", x.joint(3, 0), 1 << 11 | 1 << 9 | 1 << 7);
        due("just these", x.joint(3, 2), 1);
        due("at 0", x.joint(3, 1), 0);
        due("by 2 the least of them", x.joint(2, 0), 1 << 9 | 1 << 7);
        x.cause(0, 0, 0);
        due("six, by 3", x.joint(3, 0), 32 + 16 + 8);
        x.see(0);
        due("six, by 3, each with one: at 1", x.joint(3, 2), 6);
        x.drop(0);
        due("six, by 3, with none", x.joint(3, 2), 41);
        x.cause(0, 0, 1);
        due("twelve again, by 3", x.joint(3, 2), 298);
        x = gate();
        x.see(3);
        x.weakest(0);
        due("with all LINKS, after weakest()", x.joint(3, 0), 7);
    }

    private static void odds() {
        promise(25, "ODDS of a CAUSE (NONE: of NOTHING): the upper number (what 0), the lower one (1). NONE for others");
        CauseBook x = star();
        x.see(2);
        due("the first, upper", x.odds(0, 0), 112);
        due("the last, upper", x.odds(2, 0), 8);
        due("NOTHING, upper", x.odds(NONE, 0), 15);
        due("lower", x.odds(2, 1), 247);
        due("NOTHING, lower", x.odds(NONE, 1), 247);
        for (int what = 0; what < 2; what++) {
            none("one more", x.odds(3, what));
            none("-2", x.odds(-2, what));
            none("no CAUSES", coded(2).odds(0, what));
            due("NOTHING without CAUSES", coded(2).odds(NONE, what), 1);
        }
        for (int cause = NONE; cause < 3; cause++) {
            none("what 2", x.odds(cause, 2));
            none("what -1", x.odds(cause, -1));
        }
        for (int far : FAR_OFF) {
            none("cause " + far, x.odds(far, 0));
            none("what " + far, x.odds(0, far));
        }
        x = wide();
        x.cause(0, 0, 9);
        x.terms(0, 11);
        x.terms(1, 3);
        x.terms(2, 8);
        // the CAUSE that is lost whole: 11 to the 6th for 13 to the 6th, against NOTHING and the other one alike
        long lost = 1771561L;
        long kept = 4826809L;
        due("beyond an int, upper", x.odds(0, 0), 9 * lost);
        due("beyond an int, lower", x.odds(0, 1), 18 * lost + 8 * kept);
        due("NOTHING", x.odds(NONE, 0) * 9 * lost - x.odds(0, 0) * 4 * kept, 0);
        x.see(63);
        // 5 to the 6th times 13 to the 6th; 3 to the 6th times 11 to the 6th; 3 to the 6th times 13 to the 6th
        long first = 9 * 15625L * kept;
        long second = 9 * 729L * lost;
        long nothing = 8 * 729L * kept;
        due("far beyond an int, upper", x.odds(0, 0), first / 9);
        due("far beyond an int, lower", x.odds(0, 1), (first + second + nothing) / 9);
    }

    private static void likeliest() {
        promise(26, "the first (what 0), how many (1), 1 if NOTHING has greater ones (2). NONE without CAUSES, others");
        CauseBook x = coded(1, 0, 1, 0);
        // 15, 2, 15 and NOTHING 15
        due("the first", x.likeliest(0), 0);
        due("two", x.likeliest(1), 2);
        due("NOTHING has like ones", x.likeliest(2), 0);
        x.terms(2, 2);
        due("NOTHING has greater ones", x.likeliest(2), 1);
        x.terms(2, 0);
        due("NOTHING has lesser ones", x.likeliest(2), 0);
        none("what 3", x.likeliest(3));
        none("what -1", x.likeliest(-1));
        for (int far : FAR_OFF) {
            none("what " + far, x.likeliest(far));
        }
        for (int what = 0; what < 3; what++) {
            none("no CAUSES", coded(2).likeliest(what));
        }
        x.see(1);
        due("the second", x.likeliest(0), 1);
        due("one", x.likeliest(1), 1);
        x.terms(0, 16);
        x.terms(1, 0);
        due("all have 0: the first", x.likeliest(0), 0);
        due("all have 0: three", x.likeliest(1), 3);
        due("NOTHING has 0", x.likeliest(2), 0);
        x.book(0);
        due("an empty BOOK: three", x.likeliest(1), 3);
        x = coded(1, 1);
        x.terms(0, 0);
        due("one that can't be: the first all the same", x.likeliest(0) * 10 + x.likeliest(1), 1);
        due("but NOTHING has greater ones", x.likeliest(2), 1);
    }

    private static void ranked() {
        promise(27, "The i-th CAUSE RANKED (0 on). NONE");
        CauseBook x = coded(1, 1, 0);
        due("the first", x.ranked(0), 1);
        due("the last", x.ranked(1), 0);
        none("one more", x.ranked(2));
        none("-1", x.ranked(-1));
        for (int far : FAR_OFF) {
            none("ranked(" + far + ")", x.ranked(far));
        }
        none("no CAUSES", coded(2).ranked(0));
        x = crowd();
        x.cause(0, 1, 8);
        due("the last of the heavier", x.ranked(5), 10);
        due("the first of the lighter", x.ranked(6), 1);
        due("the twelfth", x.ranked(11), 11);
        none("a thirteenth", x.ranked(12));
    }

    private static void hold() {
        promise(28, "how many SIGNS (what 0), which (1). NONE (by none; others)");
        CauseBook x = coded(3, 3, 6);
        x.see(3);
        due("how many", x.hold(0), 1);
        due("which", x.hold(1), 1);
        none("what 2", x.hold(2));
        none("what -1", x.hold(-1));
        for (int far : FAR_OFF) {
            none("what " + far, x.hold(far));
        }
        x.see(2);
        none("both are NEAREST, how many", x.hold(0));
        none("both are NEAREST, which", x.hold(1));
        none("like CODES", coded(2, 3, 3).hold(0));
        x = wide();
        x.see(63);
        due("six of twelve make a tie", x.hold(0), 6);
        due("the least six", x.hold(1), 63);
        x.see(4032);
        due("from the other side", x.hold(1), 63);
        x.book(4032);
        due("three of six", x.hold(1), 64 + 128 + 256);
        x.book(2048 + 1024 + 512);
        due("two of three", x.hold(1), 512 + 1024);
        x = coded(4, 15, 3, 8);
        x.see(15);
        // at 0, 2, 3; without 2: 1, 1; without 3: 1, 1
        due("one, the least that does", x.hold(1), 4);
        x.book(8);
        due("all but one at 0", x.hold(1), 8);
    }

    /** Each CAUSE but the last lacks another SIGN: the last is NEAREST only once all of these are told. */
    private static void holdOfAll() {
        promise(28, "how many SIGNS (what 0): all of the BOOK");
        CauseBook x = coded(4, 14, 13, 11, 7, 15);
        due("four of four", x.hold(0), 4);
        due("which", x.hold(1), 15);
        x.book(7);
        // the fourth has all of these too
        due("three of three", x.hold(1), 7);
        x = objects(0, 0, 0, 0, 0, 1);
        for (int o = 0; o < 5; o++) {
            for (int p = o + 1; p < 5; p++) {
                x.link(0, o, p);
            }
        }
        x.link(1, 5, 0);
        for (int e = 0; e < 2; e++) {
            for (int f = 2; f < 4; f++) {
                x.rule(1, e, 0, f, 0);
                x.rule(2, e, 0, f, 0);
            }
            x.rule(0, e, 0, 3 - e, 0);
            x.rule(1, 8, 1, 2 * e, 0);
            x.cause(0, e, 1);
        }
        x.cause(1, 0, 1);
        x.sign(0, 2);
        x.sign(0, 3);
        for (int c = 0; c < 10; c++) {
            due("all but one", x.code(1 << c), 1023 - (1 << c));
        }
        due("all", x.code(1024), 1023);
        due("ten are NEAREST", x.nearest(3), 1023);
        due("ten of ten", x.hold(0), 10);
        due("which", x.hold(1), 1023);
        x.book(1022);
        due("nine of nine", x.hold(1), 1022);
    }

    private static void minimal() {
        promise(29, "how many (i NONE), else the i-th, as bits of CAUSES. NONE (no such SIGN, set)");
        CauseBook x = gate();
        due("how many", x.minimal(0, NONE), 3);
        due("the first", x.minimal(0, 0), 3);
        due("the last", x.minimal(0, 2), 6);
        none("one more", x.minimal(0, 3));
        none("i -2", x.minimal(0, -2));
        due("the last SIGN", x.minimal(1, NONE), 1);
        due("the last SIGN", x.minimal(1, 0), 7);
        none("one more", x.minimal(1, 1));
        none("one more SIGN", x.minimal(2, NONE));
        none("one more SIGN", x.minimal(2, 0));
        none("SIGN -1", x.minimal(-1, NONE));
        for (int far : FAR_OFF) {
            none("SIGN " + far, x.minimal(far, NONE));
            none("set " + far, x.minimal(0, far));
        }
        due("a SIGN of one, asked at first", coded(2, 1).minimal(0, NONE), 1);
        x = coded(2, 1);
        due("a SIGN of none", x.minimal(1, NONE), 0);
        none("a SIGN of none", x.minimal(1, 0));
        due("no CAUSES", coded(1).minimal(0, NONE), 0);
        none("no SIGNS", objects(0).minimal(0, NONE));
        x = crowd();
        // all OBJECTS lead to the first: its first SIGN comes of any three that are ALL, of TWO any two
        for (int o = 1; o < 6; o++) {
            x.link(0, o, 0);
        }
        x.rule(4, 0, 0, 2, 0);
        due("pairs of five", x.minimal(0, NONE), 10);
        due("the first pair", x.minimal(0, 0), 1 << 2 | 1 << 4);
        due("the last pair", x.minimal(0, 9), 1 << 8 | 1 << 10);
        x.rule(0, 0, 0, 2, 0);
        due("one, then pairs", x.minimal(0, NONE), 11);
        due("one", x.minimal(0, 0), 1);
        x.rule(0, 1, 0, 2, 0);
        due("two ones, then pairs", x.minimal(0, 1), 2);
        due("two ones, then pairs", x.minimal(0, NONE), 12);
    }

    private static void weakest() {
        promise(30, "the first (what 0), how many (1). NONE (no LINKS; others)");
        CauseBook x = objects(0, 0);
        none("no LINKS", x.weakest(0));
        none("no LINKS", x.weakest(1));
        x.link(0, 0, 1);
        x.link(0, 1, 0);
        due("no CAUSES: the first all the same", x.weakest(0), 0);
        due("no CAUSES: none", x.weakest(1), 0);
        none("what 2", x.weakest(2));
        none("what -1", x.weakest(-1));
        for (int far : FAR_OFF) {
            none("what " + far, x.weakest(far));
        }
        x.cut(0);
        x.cut(0);
        none("no LINKS any more", x.weakest(0));
        x = coded(1, 1);
        due("one LINK: the first", x.weakest(0), 0);
        due("one LINK: one", x.weakest(1), 1);
        x = coded(2, 1, 1, 2);
        due("each one: the first", x.weakest(0) * 10 + x.weakest(1), 1);
        x = coded(1, 1, 0);
        x.link(0, 1, 0);
        x.rule(1, 0, 0, 0, 0);
        // LINK 0 is the only way of both, LINK 1 the way of one
        due("both by the first", x.weakest(0) * 10 + x.weakest(1), 2);
        x = coded(1, 0, 0);
        x.link(0, 1, 0);
        x.link(0, 0, 2);
        x.rule(1, 0, 0, 0, 0);
        due("both by the last", x.weakest(0) * 10 + x.weakest(1), 12);
        x.book(0);
        due("whatever the BOOK", x.weakest(0) * 10 + x.weakest(1), 12);
        due("all LINKS stay", x.count(1), 2);
        x.link(1, 0, 2);
        x.rule(1, 0, 1, 9, 9);
        due("another way, later: its CODE stays", x.weakest(0) * 10 + x.weakest(1), 1);
    }

    private static void ordered() {
        promise(31, "the i-th (0 on), by the TIMES, of like ones by numbers. NONE (no such CAUSE, so many)");
        CauseBook x = chain();
        due("the first", x.ordered(0, 0), 1);
        due("at the same TIME the next number", x.ordered(0, 1), 2);
        due("the last", x.ordered(0, 3), 0);
        none("not so many", x.ordered(0, 4));
        none("i -1", x.ordered(0, -1));
        none("no such CAUSE", x.ordered(1, 0));
        none("CAUSE -1", x.ordered(-1, 0));
        for (int far : FAR_OFF) {
            none("CAUSE " + far, x.ordered(far, 0));
            none("i " + far, x.ordered(0, far));
        }
        x.cause(0, 7, 1);
        none("an empty CODE", x.ordered(1, 0));
        x.sign(0, 7);
        due("itself, at 0", x.ordered(1, 0), 4);
        none("that is all", x.ordered(1, 1));
        x = wide();
        x.book(0);
        for (int i = 0; i < 6; i++) {
            due("in the order of numbers", x.ordered(0, i), i);
        }
        due("the sixth", x.ordered(1, 5), 11);
        none("not so many", x.ordered(1, 6));
        none("no CAUSES", coded(2).ordered(0, 0));
    }

    private static void sure() {
        promise(32, "The least TIME t by which a CAUSE is sure. -2: by none. NONE (no such CAUSE)");
        CauseBook x = wide();
        // nothing SEEN: both at 6; from 1 on it is nearer
        due("by its first SIGN", x.sure(0), 1);
        due("the last", x.sure(1), 1);
        none("one more", x.sure(2));
        none("-1", x.sure(-1));
        for (int far : FAR_OFF) {
            none("sure(" + far + ")", x.sure(far));
        }
        none("no CAUSES", coded(2).sure(0));
        due("one CAUSE", coded(2, 3).sure(0), 0);
        x.book(32);
        due("by the last SIGN alone", x.sure(0), 6);
        due("the other has none in the BOOK", x.sure(1), 0);
        x.book(0);
        due("one GROUP", x.sure(0), 0);
        x = coded(3, 3, 3, 7);
        due("with its GROUP", x.sure(1), 0);
        due("of more SIGNS", x.sure(2), 2);
        x.see(7);
        due("whatever is SEEN", x.sure(1), 0);
        x = objects(0, 1);
        x.cause(0, 0, 1);
        x.cause(0, 5, 1);
        x.sign(0, 1);
        x.sign(0, 2);
        x.sign(0, 3);
        x.rule(0, 0, 0, 1, 3);
        x.rule(0, 0, 0, 2, 3);
        x.rule(0, 0, 0, 3, 8);
        x.rule(0, 5, 0, 1, 1);
        // CODES 7 and 1: nothing SEEN: 3 and 1; at 3: 1 and 1; at 8: 0 and 2
        due("a tie is not sure", x.sure(0), 8);
        due("the smaller one at once", x.sure(1), 0);
        // twelve SIGNS, one after the other: of EVENTS 1 .. 6 at one OBJECT, then at the other
        x = objects(0, 0);
        x.link(0, 0, 1);
        for (int e = 0; e < 6; e++) {
            x.rule(0, e, 0, e + 1, 1);
            x.sign(0, e + 1);
        }
        x.rule(1, 6, 0, 0, 1);
        x.cause(0, 0, 1);
        x.cause(0, 7, 1);
        x.book(2048);
        due("the last of twelve tells", x.sure(0), 13);
        due("it tells of the other one earlier", x.sure(2), 6);
    }

    private static void busiest() {
        promise(33, "The t (0 .. 999), the first (what 0), how many (1). NONE (w not 1 .. 999; others)");
        CauseBook x = star();
        due("an empty LOG", x.busiest(1, 0), 0);
        due("an empty LOG", x.busiest(999, 1), 0);
        x.note(0, 999);
        due("the last t", x.busiest(1, 0), 999);
        due("one", x.busiest(1, 1), 1);
        due("w 999", x.busiest(999, 0), 1);
        none("w 0", x.busiest(0, 0));
        none("w 1000", x.busiest(1000, 0));
        none("w -1", x.busiest(-1, 1));
        none("what 2", x.busiest(1, 2));
        none("what -1", x.busiest(1, -1));
        for (int far : FAR_OFF) {
            none("w " + far, x.busiest(far, 0));
            none("what " + far, x.busiest(1, far));
        }
        x.note(1, 0);
        due("the first of like ones", x.busiest(1, 0), 0);
        due("0 and 999 are never together", x.busiest(999, 1), 1);
        x.note(0, 998);
        due("0 and 998 are", x.busiest(999, 1), 2);
        due("from 0 on", x.busiest(999, 0), 0);
        due("not by one less", x.busiest(998, 1), 1);
        x.note(2, 998);
        due("998 alone has two", x.busiest(1, 0) * 10 + x.busiest(1, 1), 9982);
        due("w 2 from 997 on", x.busiest(2, 0), 997);
        x.clear();
        x.note(0, 5);
        x.note(0, 5);
        x.note(0, 6);
        x.note(1, 9);
        due("like SIGNS count once", x.busiest(3, 1), 1);
        due("the first that has one", x.busiest(3, 0), 3);
        due("w 4 from 6 on", x.busiest(4, 0) * 10 + x.busiest(4, 1), 62);
        due("w 5 from 5 on", x.busiest(5, 0), 5);
        due("w 6 from 4 on", x.busiest(6, 0), 4);
        due("w 10 from 0 on", x.busiest(10, 0), 0);
        due("w 11, not ahead of 0", x.busiest(11, 0), 0);
        x.clear();
        x.note(0, 60);
        x.note(0, 80);
        due("of like ones that told first", x.busiest(3, 0), 58);
        x.note(1, 40);
        due("of like ones that told last", x.busiest(3, 0), 38);
        x.note(1, 81);
        due("the one with two, told last", x.busiest(3, 0), 79);
        x.note(2, 20);
        due("not an earlier one with fewer", x.busiest(3, 0) * 10 + x.busiest(3, 1), 792);
    }

    private static void groups() {
        promise(34, "GROUPS (what 0), MARGIN (1; NONE with fewer than two), CORRECTED (2; NONE likewise), (3), (4). NONE for others");
        CauseBook x = coded(3, 1, 0);
        int[] two = {2, 1, 0, 2, 6};
        int[] one = {1, NONE, NONE, 2, 7};
        int[] no = {0, NONE, NONE, 0, 7};
        CauseBook empty = coded(3, 0, 0);
        for (int what = 0; what < 5; what++) {
            due("two, " + what, x.groups(what), two[what]);
            due("no CAUSES, " + what, coded(3).groups(what), no[what]);
        }
        for (int what = 0; what < 3; what++) {
            due("one, " + what, empty.groups(what), one[what]);
        }
        due("all are empty", empty.groups(3), 3);
        due("one CAUSE that is not empty", coded(1, 1).groups(3), 0);
        none("what 5", x.groups(5));
        none("what -1", x.groups(-1));
        for (int far : FAR_OFF) {
            none("what " + far, x.groups(far));
        }
        x.book(6);
        due("one, as far as the BOOK", x.groups(0), 1);
        none("no MARGIN", x.groups(1));
        none("nor CORRECTED", x.groups(2));
        due("both are empty, as far as the BOOK", x.groups(3), 3);
        due("in no CODE, whatever the BOOK", x.groups(4), 6);
        x = crowd();
        due("twelve CAUSES, one GROUP", x.groups(0), 1);
        due("all twelve are empty", x.groups(3), 4095);
        due("all twelve SIGNS in none", x.groups(4), 4095);
        x.rule(0, 0, 0, 2, 0);
        due("six, and those that are empty", x.groups(0), 7);
        due("the six that are empty", x.groups(3), 2730);
        due("the six SIGNS in none", x.groups(4), 2730);
        x.rule(0, 1, 0, 3, 0);
        due("twelve GROUPS", x.groups(0), 12);
        due("MARGIN", x.groups(1), 2);
        due("none is empty", x.groups(3) + x.groups(4), 0);
    }

    private static void group() {
        promise(35, "The least CAUSE of a CAUSE's GROUP. NONE");
        CauseBook x = coded(2, 1, 2, 2);
        due("the first", x.group(0), 0);
        due("the last", x.group(2), 1);
        none("one more", x.group(3));
        none("-1", x.group(-1));
        for (int far : FAR_OFF) {
            none("group(" + far + ")", x.group(far));
        }
        none("no CAUSES", coded(2).group(0));
        due("the twelfth", crowd().group(11), 0);
        none("a thirteenth", crowd().group(12));
    }

    private static void reduced() {
        promise(36, "How many SIGNS the BOOK would have. NONE (not 1 .. 6)");
        CauseBook x = coded(6, 63);
        for (int d = 1; d <= 6; d++) {
            due("reduced(" + d + ")", x.reduced(d), d);
        }
        none("reduced(0)", x.reduced(0));
        none("reduced(7)", x.reduced(7));
        none("reduced(-1)", x.reduced(-1));
        for (int far : FAR_OFF) {
            none("reduced(" + far + ")", x.reduced(far));
        }
        due("the BOOK is as it was", x.count(5), 63);
        due("nothing is REFUSED", x.count(9), 0);
        due("nothing is there", new CauseBook().reduced(6), 0);
        due("twelve", wide().reduced(6), 12);
    }

    private static void ask() {
        promise(37, "the SIGN (what 0), the greater part (1). NONE (fewer than two are NEAREST, an empty BOOK; others)");
        CauseBook x = coded(3, 3, 6, 7);
        x.see(2);
        // at 1, 1, 2
        due("the SIGN", x.ask(0), 0);
        due("the greater part", x.ask(1), 1);
        none("what 2", x.ask(2));
        none("what -1", x.ask(-1));
        for (int far : FAR_OFF) {
            none("what " + far, x.ask(far));
        }
        x.book(6);
        // at 1, 0, 1 by SIGNS 1, 2 alone
        x.see(4 + 2);
        due("two are NEAREST", x.nearest(3), 6);
        due("the first of the BOOK by which none is parted", x.ask(0) * 10 + x.ask(1), 12);
        x.see(2);
        none("one is NEAREST", x.ask(0));
        none("one is NEAREST", x.ask(1));
        x.book(0);
        due("three are NEAREST", x.nearest(1), 3);
        none("an empty BOOK", x.ask(0));
        none("an empty BOOK", x.ask(1));
        x.book(4);
        x.see(0);
        none("one alone has it not", x.ask(0));
        none("one CAUSE", coded(2, 1).ask(0));
        none("no CAUSES", coded(2).ask(0));
        none("nothing is there", new CauseBook().ask(0));
        x = crowd();
        due("twelve, parted by none", x.ask(0) * 100 + x.ask(1), 12);
        x.rule(0, 0, 0, 3, 0);
        x.see(0);
        due("six that bring none", x.ask(0) * 100 + x.ask(1), 6);
    }

    private static void cuts() {
        promise(38, "how many (i NONE), else of the i-th where it begins (0), its SIGNS (1), the first of the NEAREST (2; NONE without CAUSES). NONE (w, others)");
        CauseBook x = star();
        due("an empty LOG", x.cuts(1, NONE, 0), 0);
        none("an empty LOG", x.cuts(1, 0, 0));
        x.note(2, 0);
        x.note(0, 999);
        x.note(1, 998);
        due("w 1", x.cuts(1, NONE, 0), 3);
        due("w 2", x.cuts(2, NONE, 0), 2);
        due("w 998", x.cuts(998, NONE, 0), 2);
        due("w 999: 998 is within, 999 is not", x.cuts(999, NONE, 0), 2);
        due("w 999: the first", x.cuts(999, 0, 0) * 10 + x.cuts(999, 0, 1), 6);
        due("w 999: the second", x.cuts(999, 1, 0) * 10 + x.cuts(999, 1, 1), 9991);
        none("w 999: no third", x.cuts(999, 2, 0));
        none("w 1000", x.cuts(1000, NONE, 0));
        none("w 0", x.cuts(0, NONE, 0));
        none("w -1", x.cuts(-1, NONE, 0));
        due("i 2", x.cuts(1, 2, 0), 999);
        none("i 3", x.cuts(1, 3, 0));
        none("i -2", x.cuts(1, -2, 0));
        due("what 2", x.cuts(1, 2, 2), 0);
        due("what 2", x.cuts(1, 0, 2), 2);
        none("what 3", x.cuts(1, 0, 3));
        none("what -1", x.cuts(1, 0, -1));
        for (int far : FAR_OFF) {
            none("w " + far, x.cuts(far, NONE, 0));
            none("i " + far, x.cuts(1, far, 0));
            none("what " + far, x.cuts(1, 0, far));
        }
        x.book(0);
        due("an empty BOOK: the first", x.cuts(1, 0, 2), 0);
        x.cause(0, 0, 0);
        none("without CAUSES", x.cuts(1, 0, 2));
        due("but it begins", x.cuts(1, 2, 0), 999);
        due("and has SIGNS", x.cuts(1, 2, 1), 1);
        x.clear();
        for (int i = 0; i < 20; i++) {
            x.note(0, 19 - i);
        }
        due("twenty", x.cuts(1, NONE, 0), 20);
        due("the last of twenty", x.cuts(1, 19, 0), 19);
        none("one more", x.cuts(1, 20, 0));
        due("ten", x.cuts(2, NONE, 0), 10);
    }

    private static void explains() {
        promise(39, "How many entries a CAUSE begun at a START EXPLAINS. NONE (no such CAUSE, START)");
        CauseBook x = coded(2, 1, 2);
        due("an empty LOG", x.explains(0, 0), 0);
        x.note(0, 2);
        x.note(0, 999);
        x.note(1, 998);
        due("START 0", x.explains(0, 0), 1);
        none("START -1", x.explains(0, -1));
        due("START 999, 2 later less SLACK is beyond", x.explains(0, 999), 0);
        none("START 1000", x.explains(0, 1000));
        due("START 998", x.explains(0, 998), 1);
        due("START 996", x.explains(0, 996), 1);
        due("START 995", x.explains(0, 995), 0);
        due("the last CAUSE", x.explains(1, 995), 1);
        none("one more", x.explains(2, 0));
        none("-1", x.explains(-1, 0));
        for (int far : FAR_OFF) {
            none("CAUSE " + far, x.explains(far, 0));
            none("START " + far, x.explains(0, far));
        }
        x.terms(3, 5);
        due("START 999 by SLACK 5", x.explains(0, 999), 1);
        x.clear();
        for (int i = 0; i < 20; i++) {
            x.note(0, 100);
        }
        due("twenty alike", x.explains(0, 98), 20);
        due("the other none", x.explains(1, 98), 0);
        none("no CAUSES", coded(2).explains(0, 0));
    }

    private static void best() {
        promise(40, "the START (what 0), how many entries (1). NONE (no such CAUSE; others)");
        CauseBook x = coded(2, 3, 2);
        due("an empty LOG: START", x.best(0, 0), 0);
        due("an empty LOG: how many", x.best(0, 1), 0);
        x.note(0, 3);
        due("not ahead of 0", x.best(0, 0), 0);
        due("one", x.best(0, 1), 1);
        x.note(0, 4);
        due("still from 0 on one, from 1 on two", x.best(0, 0) * 10 + x.best(0, 1), 12);
        due("the last CAUSE: none", x.best(1, 0) * 10 + x.best(1, 1), 0);
        none("what 2", x.best(0, 2));
        none("what -1", x.best(0, -1));
        none("one more", x.best(2, 0));
        none("-1", x.best(-1, 0));
        for (int far : FAR_OFF) {
            none("CAUSE " + far, x.best(far, 0));
            none("what " + far, x.best(0, far));
        }
        none("no CAUSES", coded(2).best(0, 0));
        x.clear();
        x.terms(3, 0);
        x.note(1, 999);
        due("the last TIME", x.best(0, 0), 997);
        x.note(0, 999);
        due("two at once", x.best(0, 1), 2);
        x.note(0, 20);
        x.note(1, 20);
        due("the earliest of like ones, told later", x.best(0, 0), 18);
        x.note(1, 21);
        due("SLACK 0 keeps them apart", x.best(0, 1), 2);
        x.terms(3, 5);
        due("SLACK 5: three", x.best(0, 0) * 10 + x.best(0, 1), 143);
        x.clear();
        x.terms(3, 0);
        x.note(0, 60);
        x.note(0, 80);
        due("of like ones that told first", x.best(0, 0), 58);
        x.note(1, 40);
        due("of like ones that told last", x.best(0, 0), 38);
        x.note(1, 80);
        x.note(1, 20);
        due("not an earlier one with fewer", x.best(0, 0) * 10 + x.best(0, 1), 782);
        x.clear();
        x.note(0, 1);
        due("too early for any START", x.best(0, 0) * 10 + x.best(0, 1), 0);
        x.note(0, 70);
        due("one that is not", x.best(0, 0) * 10 + x.best(0, 1), 681);
        x = objects(0);
        x.cause(0, 0, 1);
        x.sign(0, 0);
        x.terms(3, 0);
        x.note(0, 999);
        due("the last START", x.best(0, 0) * 10 + x.best(0, 1), 9991);
        due("by it", x.explains(0, 999), 1);
        due("by it", x.cover(), 1);
    }

    private static void cover() {
        promise(41, "how many (0 with an empty LOG). NONE (more than 3, or by none)");
        due("nothing is there", new CauseBook().cover(), 0);
        CauseBook x = coded(5, 1, 2, 4, 8);
        due("an empty LOG", x.cover(), 0);
        for (int s = 0; s < 3; s++) {
            x.note(s, 10);
            due("as many as SIGNS", x.cover(), s + 1);
        }
        x.note(3, 10);
        none("more than 3", x.cover());
        x.undo();
        due("3 again", x.cover(), 3);
        x.note(4, 10);
        none("by none", x.cover());
        x.clear();
        x.note(4, 10);
        none("by none alone", x.cover());
        x.clear();
        due("empty again", x.cover(), 0);
        x.cause(0, 0, 0);
        due("an empty LOG without CAUSES", x.cover(), 0);
        x.note(0, 10);
        none("without CAUSES", x.cover());
        // 7 and 56 cover 0 .. 5 by two, though 30 would take most at first
        x = coded(6, 7, 56, 30);
        for (int s = 0; s < 6; s++) {
            x.note(s, 50);
        }
        due("two, not three", x.cover(), 2);
        x = coded(2, 3);
        for (int i = 0; i < 20; i++) {
            x.note(i % 2, 100 + 300 * (i % 3));
        }
        due("twenty by three", x.cover(), 3);
    }

    private static void ofCause() {
        promise(42, "OBJECT (0), EVENT (1), WEIGHT (2), how many SIGNS (3), the greatest TIME (4; NONE without). NONE for others");
        CauseBook x = objects(1, 0);
        x.cause(0, 7, 9);
        x.cause(1, 0, 1);
        x.sign(0, 7);
        x.sign(0, 0);
        x.rule(0, 7, 0, 0, 9);
        int[] first = {0, 0, 1, 0, NONE, NONE};
        int[] last = {1, 7, 9, 2, 9, NONE};
        for (int what = 0; what < 6; what++) {
            due("the first, " + what, x.ofCause(0, what), first[what]);
            due("the last, " + what, x.ofCause(1, what), last[what]);
            none("one more, " + what, x.ofCause(2, what));
            none("-1, " + what, x.ofCause(-1, what));
        }
        none("what -1", x.ofCause(1, -1));
        for (int far : FAR_OFF) {
            none("CAUSE " + far, x.ofCause(far, 0));
            none("what " + far, x.ofCause(0, far));
        }
        x.drop(0);
        due("its own SIGN alone, at 0", x.ofCause(1, 4), 0);
        x.book(0);
        due("whatever the BOOK", x.ofCause(1, 3), 1);
        due("the twelfth", crowd().ofCause(11, 0), 5);
        none("a thirteenth", crowd().ofCause(12, 0));
    }

    private static void ofSign() {
        promise(43, "OBJECT (0), EVENT (1), 1 if the BOOK has it (2), 1 if it is SEEN (3), CAUSES (4). NONE for others");
        CauseBook x = coded(2, 3, 2);
        x.book(2);
        x.see(1);
        int[] first = {2, 1, 0, 1, 1, NONE};
        int[] last = {3, 1, 1, 0, 3, NONE};
        for (int what = 0; what < 6; what++) {
            due("the first, " + what, x.ofSign(0, what), first[what]);
            due("the last, " + what, x.ofSign(1, what), last[what]);
            none("one more, " + what, x.ofSign(2, what));
            none("-1, " + what, x.ofSign(-1, what));
        }
        none("what -1", x.ofSign(1, -1));
        for (int far : FAR_OFF) {
            none("SIGN " + far, x.ofSign(far, 0));
            none("what " + far, x.ofSign(0, far));
        }
        due("of no CAUSES", coded(2).ofSign(1, 4), 0);
        due("what only several bring is in no CAUSE's CODE", gate().ofSign(0, 4), 0);
        x = crowd();
        x.see(2048);
        due("the twelfth, its OBJECT", x.ofSign(11, 0), 5);
        due("the twelfth, in the BOOK", x.ofSign(11, 2), 1);
        due("the twelfth, SEEN", x.ofSign(11, 3), 1);
        due("the eleventh", x.ofSign(10, 3), 0);
        none("a thirteenth", x.ofSign(12, 2));
    }

    private static void ofObject() {
        promise(44, "KIND (what 0), to which LINKS of RELATION k lead (1 + k), from which (4 + k). NONE for others");
        for (int k = 0; k < 3; k++) {
            CauseBook x = objects(3, 2, 1, 0, 0, 0, 0, 0, 0, 0);
            x.link(k, 0, 9);
            x.link(k, 9, 1);
            for (int what = 1; what <= 6; what++) {
                due("the first, " + what, x.ofObject(0, what), what == 1 + k ? 512 : 0);
                due("the last, " + what, x.ofObject(9, what), what == 1 + k ? 2 : what == 4 + k ? 1 : 0);
                due("the second, " + what, x.ofObject(1, what), what == 4 + k ? 512 : 0);
            }
            due("KIND", x.ofObject(0, 0), 3);
            due("KIND", x.ofObject(9, 0), 0);
            none("what 7", x.ofObject(0, 7));
            none("what -1", x.ofObject(0, -1));
            none("one more", x.ofObject(10, 0));
            none("-1", x.ofObject(-1, 0));
        }
        CauseBook x = objects(1);
        for (int far : FAR_OFF) {
            none("OBJECT " + far, x.ofObject(far, 0));
            none("what " + far, x.ofObject(0, far));
        }
        due("without LINKS", x.ofObject(0, 6), 0);
        none("one more", x.ofObject(1, 0));
    }

    private static void ofRule() {
        promise(45, "SORT (what 0), a (1), RELATION (2), b (3), DELAY (4). NONE for others");
        CauseBook x = new CauseBook();
        none("none is there", x.ofRule(0, 0));
        x.rule(4, 31, 2, 30, 9);
        x.rule(0, 1, 0, 2, 3);
        int[] first = {4, 31, 2, 30, 9, NONE};
        int[] last = {0, 1, 0, 2, 3, NONE};
        for (int what = 0; what < 6; what++) {
            due("the first, " + what, x.ofRule(0, what), first[what]);
            due("the last, " + what, x.ofRule(1, what), last[what]);
            none("one more, " + what, x.ofRule(2, what));
            none("-1, " + what, x.ofRule(-1, what));
        }
        none("what -1", x.ofRule(0, -1));
        none("what -1 of the last", x.ofRule(1, -1));
        for (int far : FAR_OFF) {
            none("RULE " + far, x.ofRule(far, 0));
            none("what " + far, x.ofRule(0, far));
        }
    }

    private static void count() {
        promise(46, "0 OBJECTS, .. 13 .. 16 TERMS 0 .. 3. NONE for others");
        CauseBook x = star();
        x.note(1, 1);
        x.book(6);
        x.see(5);
        x.terms(0, 10);
        x.terms(1, 11);
        x.terms(2, 7);
        x.terms(3, 3);
        stands("all", x, 6, 5, 1, 3, 3, 6, 5, 1, 10, 0, 0, 0, 0, 10, 11, 7, 3);
        none("17", x.count(17));
        none("-1", x.count(-1));
        for (int far : FAR_OFF) {
            none("count(" + far + ")", x.count(far));
        }
        x = crowd();
        x.see(4095);
        stands("twelve of either", x, 6, 0, 0, 12, 12, 4095, 4095);
    }

    private static void countOfRefused() {
        promise(46, "9 .. 12 how many calls were REFUSED by -1, -2, -4, -5");
        CauseBook x = objects(0, 1, 2, 3, 0, 1, 2, 3, 0, 1);
        for (int i = 1; i <= 3; i++) {
            x.object(4);
            due("-1", x.count(9), i);
            due("-2", x.count(10), 2 * i - 2);
            x.cut(0);
            x.drop(0);
            due("-2", x.count(10), 2 * i);
            due("-4", x.count(11), i - 1);
            x.link(0, 1, 1);
            due("-4", x.count(11), i);
            due("-5", x.count(12), i - 1);
            x.object(3);
            due("-5", x.count(12), i);
            due("-1", x.count(9), i);
            x.code(-5);
            x.ofRule(9, 9);
            x.clear();
        }
        x.link(0, 0, 1);
        x.undo();
        x.image(0);
        x.back(0);
        int[] want = {3, 6, 3, 3};
        for (int i = 0; i < 4; i++) {
            due("what is not REFUSED changes none", x.count(9 + i), want[i]);
        }
        for (int i = 0; i < 300; i++) {
            x.see(1);
        }
        due("beyond a byte", x.count(9), 303);
    }

    private static void status() {
        promise(47, "What the latest call was REFUSED by; 0 if it was not, or ahead of any");
        CauseBook x = new CauseBook();
        due("ahead of any", x.status(), 0);
        x.code(5);
        x.ofCause(0, 0);
        due("questions do not count", x.status(), 0);
        x.clear();
        due("nor does clear()", x.status(), 0);
        for (int call = 0; call < 16; call++) {
            x = star();
            x.image(0);
            due("ahead of call " + call, x.status(), 0);
            x.cut(77);
            due("a call that was REFUSED", x.status(), -2);
            accepted(x, call);
            due("call " + call + " was not", x.status(), 0);
        }
        x = objects(0, 1, 2, 3, 0, 1, 2, 3, 0, 1);
        x.object(4);
        due("-1", x.status(), -1);
        x.cut(0);
        due("-2", x.status(), -2);
        x.link(0, 0, 0);
        due("-4", x.status(), -4);
        x.object(0);
        due("-5", x.status(), -5);
        due("asked again", x.status(), -5);
        x.nearest(9);
        x.count(99);
        due("a question does not change it", x.status(), -5);
        x.clear();
        due("nor does clear()", x.status(), -5);
    }

    /** One of the sixteen calls that status() tells of, in the document's order. */
    private static int accepted(CauseBook x, int call) {
        switch (call) {
            case 0: return x.terms(0, 0);
            case 1: return x.object(3);
            case 2: return x.link(2, 0, 1);
            case 3: return x.cut(0);
            case 4: return x.rule(0, 0, 0, 0, 0);
            case 5: return x.drop(0);
            case 6: return x.cause(0, 0, 0);
            case 7: return x.sign(1, 1);
            case 8: return x.reduce(1);
            case 9: return x.book(0);
            case 10: return x.see(7);
            case 11: return x.note(0, 0);
            case 12: return x.window(0, 1);
            case 13: return x.undo();
            case 14: return x.image(1);
            default: return x.back(0);
        }
    }

    /** What is asked by no such number is no REFUSED call, and no act. */
    private static void questionsChangeNothing() {
        promise(46, "how many calls were REFUSED; questions are not");
        CauseBook x = star();
        x.note(0, 4);
        x.book(3);
        x.see(6);
        int[] odd = {LOW, -2, -1, 0, 1, 4096, HIGH};
        for (int i : odd) {
            askAll(x, i);
        }
        stands("then", x, 6, 5, 1, 3, 3, 3, 6, 1, 10, 0, 0, 0, 0, 2, 1, 1, 1);
        due("status", x.status(), 0);
    }

    /** As many as there can be of all: the last numbers have answers too. */
    private static void allFull() {
        promise(46, "10 OBJECTS, 20 LINKS, 12 RULES, 12 CAUSES, 12 SIGNS, 20 entries");
        CauseBook x = crowd();
        for (int i = 6; i < 10; i++) {
            x.object(3);
        }
        for (int i = 0; i < 20; i++) {
            x.link(i / 9, i % 9, i % 9 + 1);
        }
        x.rule(0, 0, 0, 2, 1);
        x.rule(0, 1, 0, 3, 2);
        for (int i = 2; i < 12; i++) {
            x.rule(1, 24, 2, 25, 9);
        }
        for (int i = 0; i < 20; i++) {
            x.note(11 - i % 2, 980 + i);
        }
        stands("full", x, 10, 20, 12, 12, 12, 4095, 0, 20);
        due("sure(11)", x.sure(11), 2);
        due("sure(10)", x.sure(10), 1);
        due("ofCause(11, 4)", x.ofCause(11, 4), 2);
        due("ordered(11, 0)", x.ordered(11, 0), 11);
        none("ordered(11, 1)", x.ordered(11, 1));
        due("ofSign(11, 4)", x.ofSign(11, 4), 2048);
        due("group(11)", x.group(11), 11);
        due("distance(11, 10, 0)", x.distance(11, 10, 0), 2);
        due("code(4095)", x.code(4095), 4095);
        due("nearest(1)", x.nearest(1), 12);
        due("ranked(11)", x.ranked(11), 11);
        due("minimal(11, 0)", x.minimal(11, 0), 2048);
        none("minimal(11, 1)", x.minimal(11, 1));
        due("reduced(1)", x.reduced(1), 12);
        due("weakest", x.weakest(0) * 10 + x.weakest(1), 0);
        due("joint by 3", x.joint(3, 2), 12);
        due("busiest", x.busiest(2, 0) * 10 + x.busiest(2, 1), 9802);
        due("cuts", x.cuts(1, 19, 0), 999);
        due("cuts", x.cuts(1, 19, 1), 1024);
        due("cuts", x.cuts(1, 19, 2), 10);
        // SIGN 11 at 980, 982, .. of CAUSE 11, 2 later: 980, 982 by START 979 and SLACK 1
        due("best of the last", x.best(11, 0) * 10 + x.best(11, 1), 9792);
        due("explains by the last START", x.explains(11, 999), 0);
        none("too many", x.cover());
        due("time", x.time(4095, 9, 7), -2);
        due("the last OBJECT", x.ofObject(9, 4), 256);
        due("the last RULE", x.ofRule(11, 4), 9);
    }

    private static void askAll(CauseBook x, int i) {
        x.time(i, i, i);
        x.spread(i, i);
        x.code(i);
        x.distance(i, i, i);
        x.nearest(i);
        x.joint(i, i);
        x.odds(i, i);
        x.likeliest(i);
        x.ranked(i);
        x.hold(i);
        x.minimal(i, i);
        x.weakest(i);
        x.ordered(i, i);
        x.sure(i);
        x.busiest(i, i);
        x.groups(i);
        x.group(i);
        x.reduced(i);
        x.ask(i);
        x.cuts(i, i, i);
        x.explains(i, i);
        x.best(i, i);
        x.cover();
        x.ofCause(i, i);
        x.ofSign(i, i);
        x.ofObject(i, i);
        x.ofRule(i, i);
        x.count(i);
        x.status();
    }
}
