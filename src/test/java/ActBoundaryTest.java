/** Boundary cases that promises 1 to 18 name, each on both sides, with answers worked out by hand. */
public final class ActBoundaryTest extends Checks {
    public static void main(String[] args) {
        newObject();
        terms();
        object();
        link();
        cut();
        rule();
        drop();
        cause();
        sign();
        reduce();
        bookAndSee();
        note();
        clear();
        window();
        undoOfNone();
        undoOfEach();
        undoKeepsTen();
        undoAll();
        undoWhenFull();
        undoLeaves();
        image();
        back();
        backToEach();
        codesAnew();
        report("ActBoundaryTest");
    }

    private static void newObject() {
        promise(1, "Nothing is there");
        CauseBook x = new CauseBook();
        stands("new", x, 0, 0, 0, 0, 0, 0, 0, 0, 0, 0, 0, 0, 0, 2, 1, 1, 1);
        due("status", x.status(), 0);
        none("object 0", x.ofObject(0, 0));
        none("rule 0", x.ofRule(0, 0));
        none("cause 0", x.ofCause(0, 0));
        none("sign 0", x.ofSign(0, 0));
        refused("no link", x, x.cut(0), -2);
        refused("no rule", x, x.drop(0), -2);
        refused("nothing can be undone", x, x.undo(), -4);
        refused("no image 0", x, x.back(0), -4);
        refused("no image 1", x, x.back(1), -4);
        CauseBook y = new CauseBook();
        x.object(0);
        x.terms(0, 9);
        stands("another object", y, 0, 0, 0, 0, 0, 0, 0, 0, 0, 0, 0, 0, 0, 2, 1, 1, 1);
    }

    private static void terms() {
        promise(2, "A TERM: what it was. -1");
        CauseBook x = new CauseBook();
        taken("terms(0, 16)", x, x.terms(0, 16), 2);
        taken("terms(0, 0)", x, x.terms(0, 0), 16);
        taken("terms(3, 5)", x, x.terms(3, 5), 1);
        refused("terms(4, 0)", x, x.terms(4, 0), -1);
        refused("terms(-1, 0)", x, x.terms(-1, 0), -1);
        refused("terms(2, 10)", x, x.terms(2, 10), -1);
        taken("terms(2, 9)", x, x.terms(2, 9), 1);
        taken("it is so", x, x.terms(2, 9), 9);
        due("none can be undone", x.count(8), 0);
        refused("undo", x, x.undo(), -4);
        due("NOTHING", x.count(15), 9);
    }

    private static void object() {
        promise(3, "its number. -1; -5 (10 there are; CAUSES, SIGNS would be more than 12)");
        CauseBook x = new CauseBook();
        for (int i = 0; i < 10; i++) {
            taken("object", x, x.object(3 - i % 4), i);
        }
        refused("an eleventh", x, x.object(0), -5);
        refused("an eleventh that can't be", x, x.object(4), -1);
        // by CAUSES alone, by SIGNS alone
        x = objects(0, 0, 0, 1);
        x.cause(0, 0, 1);
        x.cause(0, 1, 1);
        x.cause(0, 2, 1);
        x.cause(1, 0, 1);
        x.cause(1, 1, 1);
        due("eleven causes", x.count(3), 11);
        refused("fourteen causes", x, x.object(0), -5);
        refused("thirteen causes", x, x.object(1), -5);
        x.cause(1, 1, 0);
        taken("eleven causes", x, x.object(1), 4);
        taken("twelve causes", x, x.object(1), 5);
        refused("thirteen causes", x, x.object(1), -5);
        taken("of neither", x, x.object(2), 6);
        x = objects(0, 0, 0, 1);
        x.sign(0, 0);
        x.sign(0, 1);
        x.sign(0, 2);
        x.sign(1, 0);
        due("ten signs", x.count(4), 10);
        refused("thirteen signs", x, x.object(0), -5);
        taken("eleven signs", x, x.object(1), 4);
        taken("twelve signs", x, x.object(1), 5);
        refused("thirteen signs", x, x.object(1), -5);
        taken("of neither", x, x.object(2), 6);
    }

    private static void link() {
        promise(4, "-1 (RELATION); -2; -4 (to itself; there is such a one); -5");
        CauseBook x = objects(0, 1, 2);
        taken("to the last", x, x.link(0, 0, 2), 0);
        refused("to one more", x, x.link(0, 0, 3), -2);
        refused("to -1", x, x.link(0, 0, -1), -2);
        taken("from the last", x, x.link(0, 2, 0), 1);
        refused("from one more", x, x.link(0, 3, 0), -2);
        refused("from -1", x, x.link(0, -1, 0), -2);
        refused("the last to itself", x, x.link(0, 2, 2), -4);
        refused("one more to itself", x, x.link(0, 3, 3), -2);
        refused("no relation, one more to itself", x, x.link(3, 3, 3), -1);
        refused("there is such a one", x, x.link(0, 2, 0), -4);
        refused("no relation, all else as it is", x, x.link(-1, 2, 0), -1);
        CauseBook y = new CauseBook();
        refused("no objects", y, y.link(0, 0, 1), -2);
        refused("no objects, to itself", y, y.link(0, 0, 0), -2);
        refused("far off", y, y.link(2, LOW, HIGH), -2);
    }

    private static void cut() {
        promise(5, "A LINK goes, those above have a number 1 less: how many there are then. -2");
        CauseBook x = objects(0, 0, 0, 0);
        x.link(0, 0, 1);
        x.link(0, 0, 2);
        x.link(0, 0, 3);
        refused("cut(3)", x, x.cut(3), -2);
        refused("cut(-1)", x, x.cut(-1), -2);
        taken("cut(0)", x, x.cut(0), 2);
        due("1 goes", x.ofObject(0, 1), 12);
        refused("cut(2)", x, x.cut(2), -2);
        taken("cut(1), which was 2", x, x.cut(1), 1);
        due("3 goes", x.ofObject(0, 1), 4);
        refused("cut(1)", x, x.cut(1), -2);
        taken("the last", x, x.cut(0), 0);
        due("none is left", x.ofObject(0, 1), 0);
        refused("none is left", x, x.cut(0), -2);
        taken("a new one is 0", x, x.link(2, 3, 0), 0);
    }

    private static void rule() {
        promise(6, "A RULE: its number; a, b 0 .. 31 each. -1; -5");
        CauseBook x = new CauseBook();
        int[][] taken = {{0, 0, 0, 0, 0}, {4, 31, 2, 31, 9}, {0, 31, 0, 31, 9}, {4, 0, 2, 0, 0}};
        for (int i = 0; i < taken.length; i++) {
            int[] r = taken[i];
            taken("rule", x, x.rule(r[0], r[1], r[2], r[3], r[4]), i);
            for (int what = 0; what < 5; what++) {
                due("rule " + i + ", " + what, x.ofRule(i, what), r[what]);
            }
        }
        int[] most = {4, 31, 2, 31, 9};
        for (int i = 0; i < 5; i++) {
            int[] r = {1, 1, 1, 1, 1};
            r[i] = most[i] + 1;
            refused("part " + i + " too great", x, x.rule(r[0], r[1], r[2], r[3], r[4]), -1);
            r[i] = -1;
            refused("part " + i + " too small", x, x.rule(r[0], r[1], r[2], r[3], r[4]), -1);
        }
        for (int i = 4; i < 12; i++) {
            taken("rule", x, x.rule(1, 1, 1, 1, 1), i);
        }
        refused("one more", x, x.rule(1, 1, 1, 1, 1), -5);
        refused("one more that can't be", x, x.rule(1, 1, 1, 1, 10), -1);
    }

    private static void drop() {
        promise(7, "A RULE goes, those above have a number 1 less: how many there are then. -2");
        CauseBook x = new CauseBook();
        refused("none is there", x, x.drop(0), -2);
        for (int i = 0; i < 12; i++) {
            x.rule(0, i, 0, 0, 0);
        }
        refused("drop(12)", x, x.drop(12), -2);
        refused("drop(-1)", x, x.drop(-1), -2);
        taken("drop(11)", x, x.drop(11), 11);
        refused("drop(11)", x, x.drop(11), -2);
        due("the one below", x.ofRule(10, 1), 10);
        taken("drop(0)", x, x.drop(0), 10);
        for (int i = 0; i < 10; i++) {
            due("1 less", x.ofRule(i, 1), i + 1);
        }
        taken("drop(4)", x, x.drop(4), 9);
        due("below", x.ofRule(3, 1), 4);
        due("above", x.ofRule(4, 1), 6);
        none("the last that was", x.ofRule(9, 1));
    }

    private static void cause() {
        promise(8, "CAUSES of a WEIGHT (0: none any more): what WEIGHT was (0). -1; -4 (it is so); -5");
        CauseBook x = objects(0, 0);
        taken("there were none", x, x.cause(0, 0, 9), 0);
        refused("it is so", x, x.cause(0, 0, 9), -4);
        taken("1 less", x, x.cause(0, 0, 8), 9);
        taken("none any more", x, x.cause(0, 0, 0), 8);
        refused("there are none", x, x.cause(0, 0, 0), -4);
        taken("there were none again", x, x.cause(0, 0, 1), 0);
        refused("weight 10", x, x.cause(0, 0, 10), -1);
        refused("weight -1", x, x.cause(0, 0, -1), -1);
        refused("none of a KIND without OBJECTS", x, x.cause(1, 0, 0), -4);
        taken("a KIND without OBJECTS", x, x.cause(1, 0, 5), 0);
        refused("it is so", x, x.cause(1, 0, 5), -4);
        due("two", x.count(3), 2);
        x.object(1);
        due("an OBJECT of it comes", x.count(3), 3);
        due("weight", x.ofCause(2, 2), 5);
        x = crowd();
        refused("thirteen or more", x, x.cause(0, 4, 9), -5);
        refused("none, as it is", x, x.cause(0, 4, 0), -4);
        refused("as it is", x, x.cause(0, 0, 9), -4);
        refused("a weight that can't be", x, x.cause(0, 4, 10), -1);
        taken("another weight", x, x.cause(0, 0, 8), 9);
        taken("six less", x, x.cause(0, 0, 0), 8);
        taken("six more", x, x.cause(0, 4, 9), 0);
    }

    private static void sign() {
        promise(9, "SIGNS, or, if they are, none any more: how many SIGNS there are then. -1; -5");
        CauseBook x = objects(0, 0, 1);
        taken("two", x, x.sign(0, 0), 2);
        taken("none any more", x, x.sign(0, 0), 0);
        taken("two again", x, x.sign(0, 0), 2);
        taken("one more", x, x.sign(1, 7), 3);
        taken("none more", x, x.sign(2, 0), 3);
        taken("nor less", x, x.sign(2, 0), 3);
        x = crowd();
        refused("six more", x, x.sign(0, 7), -5);
        refused("an event that can't be", x, x.sign(0, 8), -1);
        taken("none any more is no matter of room", x, x.sign(0, 2), 6);
        taken("six more", x, x.sign(0, 7), 12);
        x.object(1);
        refused("one more", x, x.sign(1, 0), -5);
    }

    private static void reduce() {
        promise(10, "how many SIGNS the BOOK has then. -1");
        CauseBook x = coded(6, 63);
        for (int d = 6; d >= 1; d--) {
            taken("reduce", x, x.reduce(d), d);
            due("the book", x.count(5), (1 << d) - 1);
        }
        refused("reduce(0)", x, x.reduce(0), -1);
        refused("reduce(7)", x, x.reduce(7), -1);
        refused("reduce(LOW)", x, x.reduce(LOW), -1);
        refused("reduce(HIGH)", x, x.reduce(HIGH), -1);
        due("the book", x.count(5), 1);
        x.see(32);
        x.note(5, 7);
        x.reduce(2);
        reads("SEEN, the LOG stay", x, 3, 32, 1);
    }

    private static void bookAndSee() {
        promise(11, "a set of SIGNS, as bits: how many. -1 (SIGNS that there are not)");
        CauseBook x = new CauseBook();
        taken("no signs: book(0)", x, x.book(0), 0);
        refused("no signs: book(1)", x, x.book(1), -1);
        x = coded(1, 1);
        taken("one sign: book(1)", x, x.book(1), 1);
        refused("one sign: book(2)", x, x.book(2), -1);
        refused("one sign: book(3)", x, x.book(3), -1);
        x = crowd();
        taken("twelve signs: book(4095)", x, x.book(4095), 12);
        taken("the last alone", x, x.book(2048), 1);
        refused("twelve signs: book(4096)", x, x.book(4096), -1);
        refused("book(-1)", x, x.book(-1), -1);
        refused("book(LOW)", x, x.book(LOW), -1);
        refused("book(HIGH)", x, x.book(HIGH), -1);
        due("the book", x.count(5), 2048);
        promise(12, "how many were not SEEN, or are not any more. -1");
        taken("twelve that were not", x, x.see(4095), 12);
        taken("as it is", x, x.see(4095), 0);
        taken("twelve that are not any more", x, x.see(0), 12);
        taken("the last alone", x, x.see(2048), 1);
        taken("one for another", x, x.see(1), 2);
        refused("see(4096)", x, x.see(4096), -1);
        refused("see(-1)", x, x.see(-1), -1);
        refused("see(LOW)", x, x.see(LOW), -1);
        refused("see(HIGH)", x, x.see(HIGH), -1);
        reads("as it was", x, 2048, 1, 0);
        x = new CauseBook();
        taken("no signs: see(0)", x, x.see(0), 0);
        refused("no signs: see(1)", x, x.see(1), -1);
    }

    private static void note() {
        promise(13, "A SIGN at a TIME comes to the LOG: how many entries there are. -1 (TIME); -2; -5");
        CauseBook x = coded(2, 3);
        taken("time 0", x, x.note(0, 0), 1);
        taken("time 999", x, x.note(1, 999), 2);
        refused("time 1000", x, x.note(1, 1000), -1);
        refused("time -1", x, x.note(0, -1), -1);
        refused("no such sign", x, x.note(2, 0), -2);
        refused("sign -1", x, x.note(-1, 0), -2);
        refused("no such sign, time 1000", x, x.note(2, 1000), -1);
        refused("sign -1, time -1", x, x.note(-1, -1), -1);
        for (int i = 3; i <= 20; i++) {
            taken("the same again", x, x.note(1, 999), i);
        }
        refused("the twenty-first", x, x.note(1, 999), -5);
        refused("the twenty-first, of no such sign", x, x.note(2, 999), -2);
        refused("the twenty-first, at 1000", x, x.note(2, 1000), -1);
        due("twenty", x.count(7), 20);
        due("the first is there", x.cuts(1, 0, 0), 0);
        x = new CauseBook();
        refused("no signs", x, x.note(0, 0), -2);
    }

    private static void clear() {
        promise(14, "The LOG is empty: how many entries there were");
        CauseBook x = coded(2, 3);
        due("none", x.clear(), 0);
        for (int i = 0; i < 20; i++) {
            x.note(i % 2, i);
        }
        refused("full", x, x.note(0, 0), -5);
        due("twenty", x.clear(), 20);
        due("what was REFUSED is told yet", x.status(), -5);
        due("none", x.count(7), 0);
        due("none again", x.clear(), 0);
        taken("there is room again", x, x.note(0, 7), 1);
        due("none of those that were", x.cuts(1, NONE, 0), 1);
        due("at 7", x.cuts(1, 0, 0), 7);
        x.book(1);
        x.see(2);
        due("one", x.clear(), 1);
        reads("the BOOK, SEEN stay", x, 1, 2, 0);
    }

    private static void window() {
        promise(15, "SEEN is the SIGNS of a WINDOW: how many. -1 (t 0 .. 999, w)");
        CauseBook x = coded(3, 7);
        x.see(7);
        taken("an empty LOG", x, x.window(0, 999), 0);
        due("none is SEEN", x.count(6), 0);
        x.note(2, 0);
        x.note(2, 1);
        x.note(0, 999);
        taken("t 0, w 1", x, x.window(0, 1), 1);
        taken("like SIGNS count once", x, x.window(0, 2), 1);
        due("seen", x.count(6), 4);
        taken("t 0, w 999", x, x.window(0, 999), 1);
        taken("t 1, w 999", x, x.window(1, 999), 2);
        due("seen", x.count(6), 5);
        taken("t 999, w 1", x, x.window(999, 1), 1);
        taken("t 999, w 999", x, x.window(999, 999), 1);
        due("seen", x.count(6), 1);
        refused("t 1000", x, x.window(1000, 1), -1);
        refused("t -1", x, x.window(-1, 999), -1);
        refused("w 0", x, x.window(0, 0), -1);
        refused("w 1000", x, x.window(0, 1000), -1);
        refused("w -1", x, x.window(5, -1), -1);
        refused("HIGH", x, x.window(HIGH, HIGH), -1);
        refused("LOW", x, x.window(LOW, LOW), -1);
        due("seen", x.count(6), 1);
    }

    private static void undoOfNone() {
        promise(16, "-4 there is none");
        CauseBook x = new CauseBook();
        refused("new", x, x.undo(), -4);
        x.object(9);
        x.terms(0, 0);
        x.image(0);
        x.nearest(0);
        refused("after what is not undone", x, x.undo(), -4);
        x.object(0);
        taken("one", x, x.undo(), 0);
        refused("that was all", x, x.undo(), -4);
        x.object(0);
        x.back(0);
        refused("after back()", x, x.undo(), -4);
    }

    /** Each of the thirteen acts, with its number and what of the counts it changes. */
    private static void undoOfEach() {
        promise(16, "object() (told as 0), link() (1), .. window() (12)");
        for (int act = 0; act <= 12; act++) {
            CauseBook x = star();
            x.note(0, 5);
            x.see(4);
            x.book(3);
            doAct(x, act);
            due("act " + act, x.undo(), act);
            stands("act " + act + " undone", x, 6, 5, 1, 3, 3, 3, 4, 1, 9);
            due("codes", x.code(1) * 100 + x.code(2) * 10 + x.code(4), 364);
            due("the act ahead", x.undo(), 8);
            due("the act ahead", x.undo(), 9);
            due("the act ahead", x.undo(), 10);
            due("the act ahead", x.undo(), 6);
        }
    }

    private static int doAct(CauseBook x, int act) {
        switch (act) {
            case 0: return x.object(1);
            case 1: return x.link(0, 0, 5);
            case 2: return x.cut(1);
            case 3: return x.rule(0, 0, 0, 1, 0);
            case 4: return x.drop(0);
            case 5: return x.cause(0, 0, 0);
            case 6: return x.sign(1, 1);
            case 7: return x.reduce(6);
            case 8: return x.book(0);
            case 9: return x.see(3);
            case 10: return x.note(2, 6);
            case 11: return x.clear();
            default: return x.window(0, 999);
        }
    }

    private static void undoKeepsTen() {
        promise(16, "10 are kept");
        for (int acts = 9; acts <= 25; acts++) {
            CauseBook x = coded(5, 31);
            for (int i = 1; i <= acts; i++) {
                x.see(i);
                x.object(9);
            }
            due("ten, with those ahead, without those REFUSED", x.count(8), 10);
            for (int i = 1; i <= Math.min(10, acts); i++) {
                due("undo " + i + " of " + acts, x.undo(), 9);
                due("seen " + i + " of " + acts, x.count(6), acts - i);
                due("left", x.count(8), 10 - i);
            }
            if (acts < 10) {
                due("the tenth is that ahead of them", x.undo(), 6);
            }
            refused("an eleventh", x, x.undo(), -4);
        }
        CauseBook x = new CauseBook();
        for (int i = 0; i < 10; i++) {
            x.object(0);
            due("as many as there are", x.count(8), i + 1);
        }
        x.see(0);
        due("no more than ten", x.count(8), 10);
        due("an act that changes nothing is one all the same", x.undo(), 9);
        for (int i = 0; i < 9; i++) {
            due("objects", x.undo(), 0);
        }
        refused("the first object stays", x, x.undo(), -4);
        due("one", x.count(0), 1);
        // a ring that has gone round, is emptied and is filled again
        for (int i = 0; i < 7; i++) {
            x.object(1);
        }
        for (int i = 0; i < 3; i++) {
            x.link(0, i, i + 1);
        }
        x.undo();
        x.undo();
        x.rule(0, 0, 0, 0, 0);
        x.rule(0, 0, 0, 0, 0);
        x.rule(0, 0, 0, 0, 0);
        int[] want = {3, 3, 3, 1, 0, 0, 0, 0, 0, 0};
        for (int i = 0; i < 10; i++) {
            due("undo " + i, x.undo(), want[i]);
        }
        refused("an eleventh", x, x.undo(), -4);
        stands("then", x, 2, 0, 0);
    }

    private static void undoAll() {
        promise(16, "is undone (all .. is as it was)");
        CauseBook x = star();
        x.note(2, 70);
        x.see(5);
        x.book(6);
        x.cut(0);
        x.undo();
        due("LINKS have the numbers that they had", x.cut(0), 4);
        due("the first", x.ofObject(0, 1), 16);
        x.undo();
        x.object(1);
        reads("an OBJECT", x, 15, 0, 0);
        x.undo();
        reads("undone", x, 6, 5, 1);
        due("the entry", x.cuts(1, 0, 0) * 10 + x.cuts(1, 0, 1), 704);
        x.sign(1, 1);
        x.undo();
        reads("undone", x, 6, 5, 1);
        x.clear();
        x.note(1, 3);
        x.undo();
        x.undo();
        due("the LOG is there again", x.cuts(1, 0, 0) * 10 + x.cuts(1, 0, 1), 704);
        x.cause(0, 0, 9);
        x.undo();
        due("the weight is as it was", x.ofCause(0, 2), 4);
        x.reduce(1);
        x.undo();
        due("the BOOK is as it was", x.count(5), 6);
        x.window(0, 1);
        x.undo();
        due("SEEN is as it was", x.count(6), 5);
    }

    private static void undoWhenFull() {
        promise(16, "is undone (all .. is as it was); all that there can be");
        CauseBook x = objects(0, 1, 2, 3, 0, 1, 2, 3, 0, 1);
        for (int i = 0; i < 20; i++) {
            x.link(i % 3, i % 10, (i + 1) % 10);
        }
        x.cut(0);
        taken("cut", x, x.undo(), 2);
        for (int i = 19; i >= 0; i--) {
            due("link " + i, x.ofObject(i % 10, 1 + i % 3) >> (i + 1) % 10 & 1, 1);
            due("cut " + i, x.cut(i), i);
            due("link " + i + " is cut", x.ofObject(i % 10, 1 + i % 3) >> (i + 1) % 10 & 1, 0);
        }
        x = new CauseBook();
        for (int i = 0; i < 12; i++) {
            x.rule(i % 5, 31 - i, i % 3, i, i % 10);
        }
        x.drop(0);
        taken("drop", x, x.undo(), 4);
        for (int i = 0; i < 12; i++) {
            int[] want = {i % 5, 31 - i, i % 3, i, i % 10};
            for (int what = 0; what < 5; what++) {
                due("rule " + i + ", " + what, x.ofRule(i, what), want[what]);
            }
        }
        x = crowd();
        for (int i = 0; i < 20; i++) {
            x.note((i + 5) % 12, 999 - i);
        }
        x.clear();
        for (int i = 0; i < 9; i++) {
            x.note(0, i);
        }
        for (int i = 0; i < 9; i++) {
            due("note", x.undo(), 10);
        }
        taken("clear", x, x.undo(), 11);
        for (int i = 0; i < 20; i++) {
            due("entry " + i, x.cuts(1, 19 - i, 0), 999 - i);
            due("entry " + i, x.cuts(1, 19 - i, 1), 1 << (i + 5) % 12);
        }
        x = new CauseBook();
        x.cause(3, 7, 9);
        x.sign(3, 7);
        x.cause(3, 7, 8);
        x.sign(3, 7);
        x.undo();
        x.undo();
        x.object(3);
        due("the weight of the last mark", x.ofCause(0, 2), 9);
        due("the sign of the last mark", x.ofSign(0, 1), 7);
        x = new CauseBook();
        for (int i = 0; i < 10; i++) {
            x.object(i % 4);
        }
        for (int i = 0; i < 10; i++) {
            x.undo();
        }
        due("no OBJECTS", x.count(0), 0);
        taken("another KIND", x, x.object(3), 0);
        due("another KIND", x.ofObject(0, 0), 3);
    }

    private static void undoLeaves() {
        promise(16, "all but TERMS, what is told of REFUSED calls");
        CauseBook x = objects(0);
        x.object(1);
        x.terms(1, 7);
        x.object(4);
        x.cut(0);
        x.link(0, 0, 0);
        x.image(0);
        taken("undo", x, x.undo(), 0);
        due("FALSE", x.count(14), 7);
        due("-1", x.count(9), 1);
        due("-2", x.count(10), 1);
        due("-4", x.count(11), 1);
        due("the image stays", x.back(0), 2);
        due("what was undone is not done again by that", x.count(8), 0);
    }

    private static void image() {
        promise(17, "IMAGE k (0, 1) is kept: how many OBJECTS there are. -1");
        CauseBook x = new CauseBook();
        taken("of nothing", x, x.image(0), 0);
        x.object(0);
        taken("of one", x, x.image(1), 1);
        refused("image(2)", x, x.image(2), -1);
        refused("image(-1)", x, x.image(-1), -1);
        refused("image(LOW)", x, x.image(LOW), -1);
        for (int i = 1; i < 10; i++) {
            x.object(0);
        }
        due("it is no act that can be undone", x.count(8), 10);
        due("back to nothing", x.back(0), 0);
        due("back to one", x.back(1), 1);
        x.object(0);
        taken("kept anew", x, x.image(1), 2);
        x.object(0);
        due("back to two", x.back(1), 2);
        promise(17, "of all but TERMS, what is told of REFUSED calls and what can be undone");
        x.terms(0, 5);
        x.image(0);
        x.terms(0, 6);
        x.cut(9);
        int can = x.count(8);
        x.image(1);
        due("what can be undone stays", x.count(8), can);
        x.back(0);
        due("TERMS stay", x.count(13), 6);
        due("REFUSED calls stay", x.count(10), 1);
    }

    private static void back() {
        promise(18, "Back to IMAGE k: how many OBJECTS there are then; nothing can be undone then. -1; -4 (it was not kept)");
        CauseBook x = objects(0, 1);
        refused("back(2)", x, x.back(2), -1);
        refused("back(-1)", x, x.back(-1), -1);
        refused("back(HIGH)", x, x.back(HIGH), -1);
        refused("back(0)", x, x.back(0), -4);
        refused("back(1)", x, x.back(1), -4);
        x.image(1);
        refused("back(0) yet", x, x.back(0), -4);
        due("two can be undone", x.count(8), 2);
        taken("back(1)", x, x.back(1), 2);
        due("nothing can be undone", x.count(8), 0);
        refused("undo", x, x.undo(), -4);
        x.object(2);
        taken("undo to the IMAGE", x, x.undo(), 0);
        due("two", x.count(0), 2);
        refused("no farther", x, x.undo(), -4);
        x.image(0);
        x.object(3);
        taken("an IMAGE may be taken again and again", x, x.back(0), 2);
        x.object(3);
        taken("again", x, x.back(0), 2);
        due("no kind of it", x.ofObject(2, 0), NONE);
        x = objects(2);
        x.image(0);
        x.undo();
        x.object(1);
        x.image(1);
        x.back(0);
        due("its KIND, though another one came in its place", x.ofObject(0, 0), 2);
        x.back(1);
        due("and that one's", x.ofObject(0, 0), 1);
    }

    /** What was answered ahead of an act does not stand after it: by CODES, by JOINT, by the weakest LINK. */
    private static void codesAnew() {
        promise(16, "CODES after each act, after undo() and back()");
        for (int act = 0; act <= 6; act++) {
            CauseBook x = star();
            x.image(0);
            due("ahead of act " + act, decoded(x), AHEAD);
            doAct(x, act);
            due("after act " + act, decoded(x), AFTER[act]);
            x.undo();
            due("act " + act + " undone", decoded(x), AHEAD);
            doAct(x, act);
            due("after act " + act + " again", decoded(x), AFTER[act]);
            x.back(0);
            due("back from act " + act, decoded(x), AHEAD);
        }
    }

    /**
     * The DISTANCE of the first CAUSE from the empty set, how many SIGNS the last one's CODE has, how many
     * MINIMAL sets the last SIGN has, GROUPS, the weakest LINK and how many CAUSES it is of: a digit each (9: NONE) behind a 1.
     */
    private static int decoded(CauseBook x) {
        int[] digits = {x.distance(0, NONE, 0), x.ofCause(x.count(3) - 1, 3), x.minimal(x.count(4) - 1, NONE),
            x.groups(0), x.weakest(0), x.weakest(1)};
        int told = 1;
        for (int digit : digits) {
            told = told * 10 + (digit == NONE ? 9 : digit);
        }
        return told;
    }

    /**
     * Of CODES 3, 6, 4: object(1): SIGN 3 is in none. link(0, 0, 5): CODES 7, 6, 4. cut(1): CODES 1, 6, 4.
     * rule(..): as it was. drop(0): no CODES, one GROUP. cause(.., 0): no CAUSES. sign(..): no SIGNS.
     */
    private static final int[] AFTER = {1210301, 1313301, 1112301, 1212301, 1000100, 1990000, 1009100};
    private static final int AHEAD = 1212301;

    private static void backToEach() {
        promise(18, "all is as it was kept");
        CauseBook x = star();
        x.note(2, 70);
        x.see(5);
        x.book(6);
        x.image(0);
        for (int act = 0; act <= 12; act++) {
            doAct(x, act);
            taken("back after act " + act, x, x.back(0), 6);
            stands("back after act " + act, x, 6, 5, 1, 3, 3, 6, 5, 1, 0);
            due("codes", x.code(1) * 100 + x.code(2) * 10 + x.code(4), 364);
            due("the entry", x.cuts(1, 0, 0) * 10 + x.cuts(1, 0, 1), 704);
            due("the weight", x.ofCause(2, 2), 4);
        }
    }
}
