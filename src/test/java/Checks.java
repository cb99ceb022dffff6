/** What the tests share: checks that are counted, and objects to ask. */
abstract class Checks {
    static final int NONE = CauseBook.NONE;
    static final int LOW = Integer.MIN_VALUE;
    static final int HIGH = Integer.MAX_VALUE;
    private static int checks = 0;
    private static int wrong = 0;
    private static String about = "";

    /** The checks that follow are about a promise, or about a sentence of it or of the terms. */
    static void promise(int number) {
        about = "promise " + number;
    }

    static void promise(int number, String sentence) {
        about = "promise " + number + ", \"" + sentence + "\"";
    }

    static void terms(String section, String sentence) {
        about = "terms " + section + ", \"" + sentence + "\"";
    }

    static void due(String what, long got, long want) {
        checks++;
        if (got != want) {
            wrong++;
            System.out.println(about + ": " + what + " answered " + got + ", due is " + want);
        }
    }

    static void none(String what, long got) {
        due(what, got, NONE);
    }

    /** Wants count(0) on to be these. */
    static void stands(String when, CauseBook x, int... want) {
        for (int what = 0; what < want.length; what++) {
            due(when + ": count(" + what + ")", x.count(what), want[what]);
        }
    }

    /** Wants BOOK, SEEN and how many entries the LOG has to be these. */
    static void reads(String when, CauseBook x, int book, int seen, int entries) {
        due(when + ": the book", x.count(5), book);
        due(when + ": seen", x.count(6), seen);
        due(when + ": the log", x.count(7), entries);
    }

    /** Wants an answer and what is told of it after. */
    static void refused(String what, CauseBook x, int got, int by) {
        due(what, got, by);
        due(what + ": status", x.status(), by);
    }

    /** Wants an answer of a call that is not REFUSED. */
    static void taken(String what, CauseBook x, int got, int want) {
        due(what, got, want);
        due(what + ": status", x.status(), 0);
    }

    static void report(String name) {
        System.out.println(name + ": " + checks + " checks, " + wrong + " wrong");
        if (wrong != 0) {
            System.exit(1);
        }
    }

    static CauseBook objects(int... kinds) {
        CauseBook x = new CauseBook();
        for (int kind : kinds) {
            x.object(kind);
        }
        return x;
    }

    /** CAUSES of WEIGHT 1 with these CODES (objects of KIND 0), each SIGN (of KIND 1) coming 2 later. */
    static CauseBook coded(int signs, int... codes) {
        return weighted(1, signs, codes);
    }

    private static CauseBook weighted(int weight, int signs, int... codes) {
        CauseBook x = new CauseBook();
        for (int c = 0; c < codes.length; c++) {
            x.object(0);
        }
        for (int s = 0; s < signs; s++) {
            x.object(1);
        }
        for (int c = 0; c < codes.length; c++) {
            for (int s = 0; s < signs; s++) {
                if ((codes[c] >> s & 1) != 0) {
                    x.link(0, c, codes.length + s);
                }
            }
        }
        x.rule(1, 0, 0, 9, 2);
        x.cause(0, 0, weight);
        x.sign(1, 1);
        return x;
    }

    /** Codes 3, 6, 4 of three causes of weight 4, each sign coming 2 later. */
    static CauseBook star() {
        return weighted(4, 3, 3, 6, 4);
    }

    /** Three causes lead to an object that has one sign of two of them, another of all. */
    static CauseBook gate() {
        CauseBook x = objects(0, 0, 0, 1);
        x.link(1, 0, 3);
        x.link(1, 1, 3);
        x.link(1, 2, 3);
        x.rule(4, 0, 1, 9, 1);
        x.rule(3, 0, 1, 10, 2);
        x.cause(0, 0, 1);
        x.sign(1, 1);
        x.sign(1, 2);
        return x;
    }

    /** One cause, four signs at 7, 1, 1, 4; EVENT 5 brings all of them but the first. */
    static CauseBook chain() {
        CauseBook x = objects(0);
        x.rule(0, 0, 0, 1, 7);
        x.rule(0, 0, 0, 2, 1);
        x.rule(0, 2, 2, 27, 0);
        x.rule(0, 3, 0, 4, 3);
        x.rule(0, 5, 0, 2, 2);
        x.rule(0, 5, 0, 6, 9);
        x.cause(0, 0, 2);
        x.sign(0, 1);
        x.sign(0, 2);
        x.sign(0, 3);
        x.sign(0, 4);
        return x;
    }

    /** Two CAUSES with CODES 63 and 4032 of twelve SIGNS, that of EVENT e coming e later. */
    static CauseBook wide() {
        CauseBook x = objects(0, 0);
        for (int e = 1; e <= 6; e++) {
            x.rule(0, 0, 0, e, e);
            x.sign(0, e);
        }
        x.cause(0, 0, 1);
        return x;
    }

    /** Twelve CAUSES (EVENTS 0, 1) and twelve SIGNS (EVENTS 2, 3) of six OBJECTS of KIND 0, no RULES. */
    static CauseBook crowd() {
        CauseBook x = objects(0, 0, 0, 0, 0, 0);
        x.cause(0, 0, 9);
        x.cause(0, 1, 9);
        x.sign(0, 2);
        x.sign(0, 3);
        return x;
    }
}
