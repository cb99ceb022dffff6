/** Each promise by its number: ordinary inputs, edges, wrong inputs, with answers worked out by hand. */
public final class PromiseTest extends Checks {
    public static void main(String[] args) {
        acts1();
        acts2();
        acts3();
        spreads();
        decoding();
        chances();
        linksAndOrder();
        groupsAndAsking();
        logs();
        facts();
        report("PromiseTest");
    }

    private static void acts1() {
        promise(1);
        CauseBook x = new CauseBook();
        stands("new", x, 0, 0, 0, 0, 0, 0, 0, 0, 0, 0, 0, 0, 0, 2, 1, 1, 1, NONE);
        due("status", x.status(), 0);
        due("code(0)", x.code(0), 0);
        due("code(1)", x.code(1), NONE);
        due("nearest(0)", x.nearest(0), NONE);
        due("joint(1, 0)", x.joint(1, 0), NONE);
        due("odds(-1, 0)", x.odds(NONE, 0), 1);
        due("odds(-1, 1)", x.odds(NONE, 1), 1);
        due("likeliest(0)", x.likeliest(0), NONE);
        due("ranked(0)", x.ranked(0), NONE);
        due("hold(0)", x.hold(0), NONE);
        due("weakest(1)", x.weakest(1), NONE);
        due("groups(0)", x.groups(0), 0);
        due("groups(1)", x.groups(1), NONE);
        due("groups(2)", x.groups(2), NONE);
        due("groups(3)", x.groups(3), 0);
        due("groups(4)", x.groups(4), 0);
        due("reduced(6)", x.reduced(6), 0);
        due("cover", x.cover(), 0);
        due("cuts(1, -1, 0)", x.cuts(1, NONE, 0), 0);
        due("undo", x.undo(), -4);

        promise(2);
        x = new CauseBook();
        int[] first = {2, 1, 1, 1};
        int[] most = {16, 16, 9, 5};
        for (int what = 0; what < 4; what++) {
            due("terms(" + what + ", most)", x.terms(what, most[what]), first[what]);
            due("terms(" + what + ", 0)", x.terms(what, 0), most[what]);
            refused("terms(" + what + ", most + 1)", x, x.terms(what, most[what] + 1), -1);
            refused("terms(" + what + ", -1)", x, x.terms(what, -1), -1);
            due("terms(" + what + ", 3)", x.terms(what, 3), 0);
            due("status", x.status(), 0);
            due("count(" + (13 + what) + ")", x.count(13 + what), 3);
        }
        refused("terms(4, 1)", x, x.terms(4, 1), -1);
        refused("terms(-1, 1)", x, x.terms(-1, 1), -1);
        refused("terms(HIGH, LOW)", x, x.terms(HIGH, LOW), -1);
        due("count(9)", x.count(9), 11);
        due("count(8)", x.count(8), 0);

        promise(3);
        x = new CauseBook();
        refused("object(4)", x, x.object(4), -1);
        refused("object(-1)", x, x.object(-1), -1);
        for (int i = 0; i < 10; i++) {
            due("object", x.object(i % 4), i);
            due("kind", x.ofObject(i, 0), i % 4);
        }
        refused("the eleventh", x, x.object(0), -5);
        refused("object(9)", x, x.object(9), -1);
        stands("ten", x, 10);
        x = objects(0, 0, 0);
        x.cause(0, 0, 1);
        x.cause(0, 1, 1);
        x.cause(0, 2, 1);
        x.cause(0, 3, 1);
        refused("16 causes", x, x.object(0), -5);
        due("another kind", x.object(1), 3);
        x = objects(0, 0, 0);
        x.sign(0, 0);
        x.sign(0, 1);
        x.sign(0, 2);
        x.sign(0, 3);
        refused("16 signs", x, x.object(0), -5);
        x.sign(0, 3);
        due("twelve signs", x.object(0), 3);
        due("twelve signs", x.count(4), 12);
        x.cause(0, 7, 1);
        x.cause(0, 6, 1);
        x.cause(1, 0, 1);
        x.cause(1, 1, 1);
        x.cause(1, 2, 1);
        x.cause(1, 3, 1);
        due("twelve causes", x.object(1), 4);
        due("twelve causes", x.count(3), 12);
        refused("sixteen causes", x, x.object(1), -5);
        x = star();
        x.book(5);
        x.see(3);
        x.note(1, 9);
        due("object of no signs", x.object(0), 6);
        stands("object of no signs", x, 7, 5, 1, 4, 3, 5, 3, 1);
        due("object of signs", x.object(1), 7);
        stands("object of signs", x, 8, 5, 1, 4, 4, 15, 0, 0);

        promise(4);
        x = objects(0, 1, 2);
        due("link(2, 0, 1)", x.link(2, 0, 1), 0);
        due("link(2, 1, 0)", x.link(2, 1, 0), 1);
        due("link(1, 0, 1)", x.link(1, 0, 1), 2);
        refused("such a one", x, x.link(2, 0, 1), -4);
        refused("to itself", x, x.link(0, 2, 2), -4);
        refused("to none", x, x.link(0, 0, 3), -2);
        refused("from none", x, x.link(0, -1, 0), -2);
        refused("none to itself", x, x.link(0, 3, 3), -2);
        refused("relation 3", x, x.link(3, 9, 9), -1);
        refused("relation -1", x, x.link(-1, 0, 1), -1);
        stands("three", x, 3, 3);
        x = objects(0, 0, 0, 0, 0, 0);
        for (int i = 0; i < 20; i++) {
            due("link", x.link(i / 6 % 3, i % 6, (i + 1 + i / 18) % 6), i);
        }
        refused("no room", x, x.link(1, 0, 3), -5);
        refused("no room, but it is there", x, x.link(0, 0, 1), -4);
        x = star();
        due("codes are old", x.ofCause(2, 3), 1);
        x.link(0, 2, 3);
        due("codes are new", x.ofCause(2, 3), 2);
    }

    private static void acts2() {
        promise(5);
        CauseBook x = star();
        refused("cut(5)", x, x.cut(5), -2);
        refused("cut(-1)", x, x.cut(-1), -2);
        due("cut(1)", x.cut(1), 4);
        due("status", x.status(), 0);
        due("0 leads to 3", x.ofObject(0, 1), 8);
        due("1 leads to 4, 5", x.ofObject(1, 1), 48);
        due("code(1)", x.code(1), 1);
        due("cut(1) again", x.cut(1), 3);
        due("1 leads to 5", x.ofObject(1, 1), 32);
        due("the last", x.cut(2), 2);
        due("2 leads to none", x.ofObject(2, 1), 0);
        due("cut(0)", x.cut(0), 1);
        due("cut(0)", x.cut(0), 0);
        refused("none is left", x, x.cut(0), -2);
        x = star();
        due("codes are old", x.ofCause(0, 3), 2);
        x.cut(0);
        due("codes are new", x.ofCause(0, 3), 1);
        x.undo();
        due("codes are old again", x.ofCause(0, 3), 2);
        x = objects(0, 0, 0, 0, 0, 0);
        for (int i = 0; i < 20; i++) {
            x.link(i / 6 % 3, i % 6, (i + 1 + i / 18) % 6);
        }
        due("the last but one of twenty", x.cut(18), 19);
        due("1 leads to 2 and 3", x.ofObject(1, 1), 12);
        due("0 leads to 1", x.ofObject(0, 1), 2);
        due("the last of nineteen", x.cut(18), 18);
        due("1 leads to 2", x.ofObject(1, 1), 4);

        promise(6);
        x = new CauseBook();
        refused("sort 5", x, x.rule(5, 0, 0, 0, 0), -1);
        refused("sort -1", x, x.rule(-1, 0, 0, 0, 0), -1);
        refused("a 32", x, x.rule(0, 32, 0, 0, 0), -1);
        refused("a -1", x, x.rule(0, -1, 0, 0, 0), -1);
        refused("relation 3", x, x.rule(1, 0, 3, 0, 0), -1);
        refused("relation -1", x, x.rule(1, 0, -1, 0, 0), -1);
        refused("relation 3 of same", x, x.rule(0, 0, 3, 0, 0), -1);
        refused("b 32", x, x.rule(0, 0, 0, 32, 0), -1);
        refused("b -1", x, x.rule(0, 0, 0, -1, 0), -1);
        refused("delay 10", x, x.rule(0, 0, 0, 0, 10), -1);
        refused("delay -1", x, x.rule(0, 0, 0, 0, -1), -1);
        for (int i = 0; i < 12; i++) {
            due("rule", x.rule(i % 5, 31 - i, i % 3, i, i % 10), i);
        }
        refused("no room", x, x.rule(0, 0, 0, 0, 0), -5);
        refused("no room, a wrong number", x, x.rule(9, 0, 0, 0, 0), -1);
        CauseBook y = star();
        due("codes are old", y.ofCause(2, 3), 1);
        y.rule(1, 0, 0, 9, 0);
        y.rule(0, 0, 0, 1, 0);
        y.sign(0, 1);
        y.ofCause(2, 3);
        y.rule(0, 0, 0, 2, 0);
        y.sign(0, 2);
        due("codes are new", y.ofCause(2, 3), 3);
        y.drop(0);
        y.drop(0);
        due("codes are new", y.ofCause(2, 3), 2);

        promise(7);
        refused("drop(12)", x, x.drop(12), -2);
        refused("drop(-1)", x, x.drop(-1), -2);
        due("drop(3)", x.drop(3), 11);
        due("rule 2 as before", x.ofRule(2, 1), 29);
        due("rule 3 was 4", x.ofRule(3, 0) * 100 + x.ofRule(3, 3), 404);
        due("rule 10 was 11", x.ofRule(10, 1) * 10 + x.ofRule(10, 4), 201);
        due("rule 11 is none", x.ofRule(11, 0), NONE);
        due("drop(10)", x.drop(10), 10);
        due("drop(0)", x.drop(0), 9);
        due("rule 0 was 1", x.ofRule(0, 1), 30);

        promise(8);
        x = objects(0, 1, 0);
        refused("kind 4", x, x.cause(4, 0, 1), -1);
        refused("event 8", x, x.cause(0, 8, 1), -1);
        refused("weight 10", x, x.cause(0, 0, 10), -1);
        refused("weight -1", x, x.cause(0, 0, -1), -1);
        refused("none, to none", x, x.cause(0, 0, 0), -4);
        due("cause(0, 5, 9)", x.cause(0, 5, 9), 0);
        due("two of them", x.count(3), 2);
        refused("it is so", x, x.cause(0, 5, 9), -4);
        due("another weight", x.cause(0, 5, 2), 9);
        due("cause(1, 0, 3)", x.cause(1, 0, 3), 0);
        due("cause(0, 1, 4)", x.cause(0, 1, 4), 0);
        int[][] numbered = {{0, 1, 4}, {0, 5, 2}, {1, 0, 3}, {2, 1, 4}, {2, 5, 2}};
        for (int c = 0; c < 5; c++) {
            for (int what = 0; what < 3; what++) {
                due("ofCause(" + c + ", " + what + ")", x.ofCause(c, what), numbered[c][what]);
            }
        }
        due("none any more", x.cause(0, 5, 0), 2);
        due("three are left", x.count(3), 3);
        x.cause(1, 1, 1);
        x.cause(1, 2, 1);
        x.cause(0, 2, 1);
        x.cause(0, 3, 1);
        x.cause(0, 4, 1);
        due("eleven", x.count(3), 11);
        refused("thirteen", x, x.cause(0, 6, 1), -5);
        due("another weight is not more", x.cause(0, 4, 7), 1);
        due("of a kind without objects", x.cause(3, 0, 1), 0);
        due("twelve", x.cause(1, 3, 1), 0);
        refused("one more", x, x.cause(1, 4, 1), -5);

        promise(9);
        x = objects(0, 1, 0);
        refused("kind 4", x, x.sign(4, 0), -1);
        refused("event -1", x, x.sign(0, -1), -1);
        due("sign(0, 5)", x.sign(0, 5), 2);
        due("sign(1, 3)", x.sign(1, 3), 3);
        due("sign(0, 1)", x.sign(0, 1), 5);
        due("all are in the book", x.count(5), 31);
        x.see(9);
        x.book(2);
        x.note(4, 4);
        due("taken back", x.sign(0, 5), 3);
        stands("taken back", x, 3, 0, 0, 0, 3, 7, 0, 0);
        x.see(3);
        x.book(2);
        x.note(0, 0);
        due("of a kind without objects", x.sign(3, 0), 3);
        stands("of a kind without objects", x, 3, 0, 0, 0, 3, 7, 0, 0);
        for (int e = 2; e < 6; e++) {
            x.sign(0, e);
        }
        due("eleven", x.count(4), 11);
        refused("thirteen", x, x.sign(0, 6), -5);
        due("twelve", x.sign(1, 4), 12);
        refused("one more", x, x.sign(1, 5), -5);
        due("one less kind", x.sign(0, 1), 10);
    }

    private static void acts3() {
        promise(10);
        CauseBook x = star();
        refused("reduce(0)", x, x.reduce(0), -1);
        refused("reduce(7)", x, x.reduce(7), -1);
        due("reduce(1)", x.reduce(1), 2);
        due("the book", x.count(5), 6);
        due("reduce(2)", x.reduce(2), 3);
        due("the book", x.count(5), 7);
        due("reduce(6)", x.reduce(6), 3);
        x = chain();
        due("any one sign does", x.reduce(1), 1);
        due("the least", x.count(5), 1);
        due("three do", x.reduce(3), 3);
        due("the least", x.count(5), 7);
        x = gate();
        due("codes that are empty need none", x.reduce(6), 0);
        due("the book is empty", x.count(5), 0);

        promise(11);
        x = star();
        due("book(5)", x.book(5), 2);
        due("it is so", x.count(5), 5);
        due("book(0)", x.book(0), 0);
        due("book(7)", x.book(7), 3);
        refused("book(8)", x, x.book(8), -1);
        refused("book(-1)", x, x.book(-1), -1);
        refused("book(HIGH)", x, x.book(HIGH), -1);
        due("as it was", x.count(5), 7);

        promise(12);
        due("see(5)", x.see(5), 2);
        due("see(6)", x.see(6), 2);
        due("see(6) again", x.see(6), 0);
        refused("see(8)", x, x.see(8), -1);
        refused("see(-1)", x, x.see(-1), -1);
        refused("see(LOW)", x, x.see(LOW), -1);
        due("as it was", x.count(6), 6);
        x.book(1);
        due("signs beyond the book may be seen", x.see(7), 1);

        promise(13);
        x = star();
        refused("time 1000, no sign", x, x.note(3, 1000), -1);
        refused("time -1", x, x.note(0, -1), -1);
        refused("sign 3", x, x.note(3, 0), -2);
        refused("sign -1", x, x.note(-1, 0), -2);
        for (int i = 0; i < 20; i++) {
            due("note", x.note(i % 3, i * 999 / 19), i + 1);
        }
        refused("no room", x, x.note(0, 0), -5);
        refused("no room, no sign", x, x.note(7, 0), -2);

        promise(14);
        due("clear", x.clear(), 20);
        due("status stays", x.status(), -2);
        due("it is empty", x.count(7), 0);
        due("clear again", x.clear(), 0);
        due("both can be undone", x.undo(), 11);
        due("both can be undone", x.undo(), 11);
        due("the log is there again", x.count(7), 20);

        promise(15);
        x = star();
        x.note(0, 10);
        x.note(2, 12);
        x.note(0, 14);
        x.note(1, 999);
        due("window(10, 2)", x.window(10, 2), 1);
        due("below t and w", x.count(6), 1);
        due("window(10, 3)", x.window(10, 3), 2);
        due("seen", x.count(6), 5);
        due("window(11, 4)", x.window(11, 4), 2);
        due("window(0, 999)", x.window(0, 999), 2);
        due("window(999, 999)", x.window(999, 999), 1);
        due("seen", x.count(6), 2);
        refused("t 1000", x, x.window(1000, 1), -1);
        refused("t -1", x, x.window(-1, 5), -1);
        refused("w 0", x, x.window(0, 0), -1);
        refused("w 1000", x, x.window(0, 1000), -1);
        due("as it was", x.count(6), 2);
        due("none", x.window(500, 100), 0);
        due("seen", x.count(6), 0);
        undoing();
    }

    private static void undoing() {
        promise(16);
        CauseBook x = new CauseBook();
        refused("nothing", x, x.undo(), -4);
        x.object(0);
        x.object(1);
        x.link(0, 0, 1);
        x.cut(0);
        x.rule(1, 0, 0, 8, 1);
        x.drop(0);
        due("undo drop", x.undo(), 4);
        due("a rule", x.count(2), 1);
        due("undo rule", x.undo(), 3);
        due("no rule", x.count(2), 0);
        due("undo cut", x.undo(), 2);
        due("a link", x.ofObject(0, 1), 2);
        due("undo link", x.undo(), 1);
        due("no link", x.count(1), 0);
        due("undo object", x.undo(), 0);
        due("one object", x.count(0), 1);
        x.cause(0, 0, 5);
        x.cause(0, 0, 6);
        due("undo cause", x.undo(), 5);
        due("weight", x.ofCause(0, 2), 5);
        x.sign(0, 0);
        x.see(1);
        x.note(0, 3);
        x.book(0);
        x.sign(0, 1);
        stands("signs anew", x, 1, 0, 0, 1, 2, 3, 0, 0);
        due("undo sign", x.undo(), 6);
        stands("book, seen, log are there again", x, 1, 0, 0, 1, 1, 0, 1, 1);
        due("undo book", x.undo(), 8);
        due("book", x.count(5), 1);
        due("undo note", x.undo(), 10);
        due("undo see", x.undo(), 9);
        due("seen", x.count(6), 0);
        x.book(0);
        x.reduce(1);
        due("undo reduce", x.undo(), 7);
        due("book", x.count(5), 0);
        x.window(0, 1);
        due("undo window", x.undo(), 12);
        x.terms(0, 7);
        x.see(8);
        int refusedThen = x.count(9);
        x.undo();
        due("terms stay", x.count(13), 7);
        due("what is told of refused calls stays", x.count(9), refusedThen);
        due("status of undo", x.status(), 0);
        x = objects(0, 1, 2, 3, 0, 1, 2, 3);
        for (int i = 0; i < 7; i++) {
            x.link(0, i, i + 1);
        }
        due("ten are kept", x.count(8), 10);
        for (int i = 0; i < 7; i++) {
            due("undo", x.undo(), 1);
        }
        for (int i = 0; i < 3; i++) {
            due("undo", x.undo(), 0);
        }
        refused("the eleventh", x, x.undo(), -4);
        stands("five are left", x, 5, 0, 0, 0, 0, 0, 0, 0, 0);

        promise(17);
        x = star();
        x.note(0, 1);
        x.see(5);
        int can = x.count(8);
        due("image(0)", x.image(0), 6);
        due("image cannot be undone", x.count(8), can);
        refused("image(2)", x, x.image(2), -1);
        refused("image(-1)", x, x.image(-1), -1);

        promise(18);
        refused("back(2)", x, x.back(2), -1);
        refused("back(1)", x, x.back(1), -4);
        x.object(3);
        due("image(1)", x.image(1), 7);
        x.sign(1, 1);
        x.cause(0, 0, 0);
        x.drop(0);
        x.cut(0);
        x.terms(3, 4);
        due("back(0)", x.back(0), 6);
        stands("back(0)", x, 6, 5, 1, 3, 3, 7, 5, 1, 0);
        due("codes", x.code(1) * 100 + x.code(2) * 10 + x.code(4), 364);
        due("terms stay", x.count(16), 4);
        refused("nothing can be undone", x, x.undo(), -4);
        x.object(2);
        due("undo after", x.undo(), 0);
        due("back(1)", x.back(1), 7);
        due("back(0) once more", x.back(0), 6);
        due("image anew", x.image(1), 6);
        x.object(0);
        due("back(1)", x.back(1), 6);
        x = new CauseBook();
        x.object(0);
        x.image(0);
        x.undo();
        due("an image outlasts what is undone", x.back(0), 1);
    }

    private static void spreads() {
        promise(19);
        CauseBook x = star();
        due("the cause itself", x.time(1, 0, 0), 0);
        due("along", x.time(1, 4, 1), 2);
        due("not come", x.time(1, 5, 1), -2);
        due("of two", x.time(3, 5, 1), 2);
        due("of none", x.time(0, 0, 0), -2);
        due("no such causes", x.time(8, 0, 0), NONE);
        due("no such causes", x.time(-1, 0, 0), NONE);
        due("no such object", x.time(1, 6, 0), NONE);
        due("no such object", x.time(1, -1, 0), NONE);
        due("no such event", x.time(1, 0, 8), NONE);
        due("no such event", x.time(1, 0, -1), NONE);
        sorts();

        promise(20);
        x = star();
        due("facts", x.spread(1, 0), 3);
        due("latest", x.spread(1, 1), 2);
        due("objects", x.spread(1, 2), 3);
        due("rules", x.spread(1, 3), 1);
        due("of all", x.spread(7, 0), 6);
        for (int what = 0; what < 4; what++) {
            due("of none", x.spread(0, what), 0);
        }
        due("what 4", x.spread(1, 4), NONE);
        due("what -1", x.spread(1, -1), NONE);
        due("no such causes", x.spread(8, 0), NONE);
        due("no such causes", x.spread(LOW, 0), NONE);
        x = chain();
        due("facts", x.spread(1, 0), 5);
        due("latest", x.spread(1, 1), 7);
        due("one object", x.spread(1, 2), 1);
        due("rules that bring", x.spread(1, 3), 15);
        x.rule(0, 0, 0, 4, 4);
        x.rule(0, 0, 0, 1, 8);
        due("another at the same time, one too late", x.spread(1, 3), 79);
        x = objects(0);
        x.cause(0, 0, 1);
        x.rule(0, 0, 0, 0, 1);
        due("a cause later than its time", x.spread(1, 3), 0);
        x.rule(0, 0, 0, 0, 0);
        due("a cause at its time", x.spread(1, 3), 2);

        promise(21);
        x = star();
        due("code(0)", x.code(0), 0);
        due("code(1)", x.code(1), 3);
        due("code(2)", x.code(2), 6);
        due("code(4)", x.code(4), 4);
        due("code(7)", x.code(7), 7);
        x.book(0);
        due("whatever the book", x.code(2), 6);
        due("code(8)", x.code(8), NONE);
        due("code(-1)", x.code(-1), NONE);
        x = gate();
        due("one", x.code(2), 0);
        due("two", x.code(5), 1);
        due("three", x.code(7), 3);
    }

    /** The five sorts of rules, with times. */
    private static void sorts() {
        // 0, 1, 2 of kind 0 lead to 3 of kind 1; 3 leads to 4 of kind 2
        CauseBook x = objects(0, 0, 0, 1, 2);
        x.link(0, 0, 3);
        x.link(0, 1, 3);
        x.link(0, 2, 3);
        x.link(0, 3, 4);
        x.link(1, 0, 4);
        x.cause(0, 0, 1);
        x.cause(0, 1, 1);
        x.cause(2, 7, 1);
        // causes: 0 (0, 0) 1 (0, 1) 2 (1, 0) 3 (1, 1) 4 (2, 0) 5 (2, 1) 6 (4, 7)
        x.rule(0, 1, 2, 24, 5);
        due("same: event 0 comes 5 after event 1", x.time(2, 0, 0), 5);
        due("same: of itself alone", x.time(2, 1, 0), -2);
        due("the earlier one", x.time(3, 0, 0), 0);
        x.rule(4, 0, 0, 9, 2);
        due("two: one has it", x.time(1, 3, 1), -2);
        due("two: the second has it at 5", x.time(1 + 8, 3, 1), 7);
        due("two: the second of three has it at 0", x.time(1 + 4 + 32, 3, 1), 2);
        x.rule(3, 0, 0, 10, 1);
        due("all: two of three", x.time(5, 3, 2), -2);
        due("all: the last has it at 5", x.time(1 + 4 + 32, 3, 2), 6);
        due("all: at once", x.time(1 + 4 + 16, 3, 2), 1);
        x.cut(2);
        due("all: two are all", x.time(5, 3, 2), 1);
        x.undo();
        x.rule(2, 23, 0, 12, 3);
        due("against", x.time(64, 3, 4), 3);
        due("against: of another relation", x.time(64, 0, 4), -2);
        x.rule(2, 23, 1, 4, 0);
        due("against, at once", x.time(64, 0, 4), 0);
        x.rule(1, 12, 0, 19, 9);
        due("along", x.time(64, 4, 3), 12);
        x.rule(1, 12, 1, 19, 0);
        due("along: no link of that relation", x.time(64, 4, 3), 12);
        x.rule(0, 19, 0, 7, 0);
        due("same", x.time(64, 4, 7), 0);
        // nothing comes of itself
        CauseBook y = objects(0, 0);
        y.link(0, 0, 1);
        y.link(0, 1, 0);
        y.rule(1, 1, 0, 1, 0);
        y.rule(0, 1, 0, 1, 0);
        y.rule(3, 1, 0, 1, 0);
        y.cause(0, 0, 1);
        due("no fact comes of itself", y.time(3, 0, 1), -2);
        y.rule(0, 0, 0, 1, 2);
        due("round", y.time(1, 1, 1), 2);
        due("all: of no links", objectsAll().time(1, 1, 1), -2);
        CauseBook z = objects(0, 1);
        z.cause(0, 0, 1);
        z.cause(1, 0, 1);
        z.rule(0, 8, 0, 1, 4);
        due("same: of kind a", z.time(2, 1, 1), 4);
        due("same: of another kind", z.time(3, 0, 1), -2);
    }

    /** An object of the kind that all lead to, but none leads there. */
    private static CauseBook objectsAll() {
        CauseBook x = objects(0, 1);
        x.rule(3, 0, 0, 9, 0);
        x.cause(0, 0, 1);
        return x;
    }

    private static void decoding() {
        promise(22);
        CauseBook x = star();
        due("0, 1", x.distance(0, 1, 0), 2);
        due("0, 2", x.distance(0, 2, 0), 3);
        due("1, 1", x.distance(1, 1, 0), 0);
        due("0, none", x.distance(0, NONE, 0), 2);
        x.book(3);
        due("by the book", x.distance(0, 2, 0), 2);
        due("apart", x.distance(0, 2, 1), 3);
        due("none, by the book", x.distance(2, NONE, 0), 0);
        due("none, apart", x.distance(2, NONE, 1), 1);
        due("no such", x.distance(3, 0, 0), NONE);
        due("no such", x.distance(-1, 0, 0), NONE);
        due("no such", x.distance(0, 3, 0), NONE);
        due("no such", x.distance(0, -2, 0), NONE);
        due("what 2", x.distance(0, 1, 2), NONE);

        promise(23);
        x = star();
        x.see(2);
        int[] want = {1, 2, 0, 3, 2, NONE};
        for (int what = 0; what < 6; what++) {
            due("nearest(" + what + ")", x.nearest(what), want[what]);
        }
        due("nearest(-1)", x.nearest(-1), NONE);
        x.see(7);
        x.book(4);
        due("by the book", x.nearest(3), 6);
        due("the others", x.nearest(4), 1);
        x.book(0);
        due("all", x.nearest(3), 7);
        due("no others", x.nearest(4), NONE);
        x.cause(0, 0, 0);
        due("no causes", x.nearest(0), NONE);

        promise(24);
        x = star();
        x.see(7);
        int[][] joints = {{1, 1, 2}, {3, 0, 2}, {3, 0, 3}};
        for (int n = 1; n <= 3; n++) {
            for (int what = 0; what < 3; what++) {
                due("joint(" + n + ", " + what + ")", x.joint(n, what), joints[n - 1][what]);
            }
        }
        due("n 0", x.joint(0, 0), NONE);
        due("n 4", x.joint(4, 0), NONE);
        due("what 3", x.joint(1, 3), NONE);
        due("what -1", x.joint(1, -1), NONE);
        x.see(0);
        due("the least", x.joint(3, 0), 4);
        x = gate();
        x.see(3);
        due("all three", x.joint(3, 0), 7);
        due("at 0", x.joint(3, 1), 0);
        due("two", x.joint(2, 0), 3);
        due("how many twos", x.joint(2, 2), 3);
        due("one", x.joint(1, 1), 2);
        due("the least of all sets", star().joint(2, 1), 1);
        x.drop(0);
        due("all, without two", x.joint(3, 0), 7);
        due("all, without two", x.joint(3, 1), 1);
        x.cause(0, 0, 0);
        for (int what = 0; what < 3; what++) {
            due("no causes", x.joint(3, what), NONE);
        }

        promise(28);
        x = star();
        x.see(2);
        due("how many", x.hold(0), 1);
        due("which", x.hold(1), 2);
        due("what 2", x.hold(2), NONE);
        due("what -1", x.hold(-1), NONE);
        x.book(3);
        due("of the book alone", x.hold(1), 1);
        x.book(0);
        due("all are nearest", x.hold(0), NONE);
        x = chain();
        x.cause(0, 5, 1);
        // codes 15 and 14
        x.see(15);
        due("one turns it", x.hold(1), 1);
        x.book(1);
        due("all of the book", x.hold(1), 1);
        x.cause(0, 5, 0);
        due("no other cause", x.hold(1), NONE);
        x = objects(0, 1);
        for (int f = 0; f < 5; f++) {
            x.sign(0, f + 1);
            x.rule(0, 0, 0, f + 1, 0);
        }
        x.cause(0, 0, 1);
        x.cause(1, 0, 1);
        x.see(31);
        due("three of five turn it", x.hold(0), 3);
        due("the least three", x.hold(1), 7);
        x.book(30);
        due("two of four make a tie", x.hold(1), 6);

        promise(29);
        x = gate();
        due("twos", x.minimal(0, NONE), 3);
        due("first", x.minimal(0, 0), 3);
        due("second", x.minimal(0, 1), 5);
        due("third", x.minimal(0, 2), 6);
        due("no fourth", x.minimal(0, 3), NONE);
        due("threes", x.minimal(1, NONE), 1);
        due("all three", x.minimal(1, 0), 7);
        due("no such sign", x.minimal(2, NONE), NONE);
        due("no such sign", x.minimal(-1, 0), NONE);
        due("no such set", x.minimal(0, -2), NONE);
        x.cause(1, 1, 1);
        due("ones first", x.minimal(0, NONE), 4);
        due("the one", x.minimal(0, 0), 8);
        due("then twos", x.minimal(0, 1), 3);
        x.cause(0, 0, 0);
        due("one alone", x.minimal(0, NONE), 1);
        x.cause(1, 1, 0);
        due("no causes", x.minimal(0, NONE), 0);
    }

    private static void chances() {
        promise(25);
        CauseBook x = star();
        x.see(2);
        due("0 upper", x.odds(0, 0), 112);
        due("0 lower", x.odds(0, 1), 247);
        due("2 upper", x.odds(2, 0), 8);
        due("2 lower", x.odds(2, 1), 247);
        due("nothing upper", x.odds(NONE, 0), 15);
        due("nothing lower", x.odds(NONE, 1), 247);
        due("no such", x.odds(3, 0), NONE);
        due("no such", x.odds(-2, 0), NONE);
        due("what 2", x.odds(0, 2), NONE);
        due("what -1", x.odds(0, -1), NONE);
        x.terms(1, 0);
        due("0 of some: upper", x.odds(2, 0), 0);
        due("0 of some: lower", x.odds(2, 1), 1);
        due("half", x.odds(0, 0) * 10 + x.odds(0, 1), 12);
        x.terms(0, 0);
        due("all is 0: upper", x.odds(0, 0), 0);
        due("all is 0: lower", x.odds(0, 1), 1);
        due("all is 0: nothing", x.odds(NONE, 1), 1);
        greatOdds();

        promise(26);
        x = star();
        x.see(2);
        due("first", x.likeliest(0), 0);
        due("how many", x.likeliest(1), 2);
        due("nothing", x.likeliest(2), 0);
        due("what 3", x.likeliest(3), NONE);
        due("what -1", x.likeliest(-1), NONE);
        x.see(0);
        due("first", x.likeliest(0), 2);
        due("how many", x.likeliest(1), 1);
        due("nothing has greater ones", x.likeliest(2), 1);
        x.terms(0, 0);
        x.terms(2, 0);
        due("all is 0: first", x.likeliest(0), 0);
        due("all is 0: how many", x.likeliest(1), 3);
        due("all is 0: nothing", x.likeliest(2), 0);
        x.cause(0, 0, 0);
        due("no causes", x.likeliest(1), NONE);

        promise(27);
        x = star();
        x.see(0);
        due("ranked(0)", x.ranked(0), 2);
        due("ranked(1)", x.ranked(1), 0);
        due("ranked(2)", x.ranked(2), 1);
        due("ranked(3)", x.ranked(3), NONE);
        due("ranked(-1)", x.ranked(-1), NONE);
        x.cause(1, 1, 9);
        // codes of 3, 4, 5: 1, 2, 4, each with 9 times 450; that of 2 with 4 times 450; of 0, 1 with 4 times 60
        int[] want = {3, 4, 5, 2, 0, 1};
        for (int i = 0; i < 6; i++) {
            due("ranked(" + i + ")", x.ranked(i), want[i]);
        }
    }

    /** Twelve signs and twelve causes: numbers beyond an int. */
    private static void greatOdds() {
        CauseBook x = objects(0, 0, 0, 0, 0, 0);
        x.cause(0, 0, 9);
        x.cause(0, 1, 9);
        x.sign(0, 2);
        x.sign(0, 3);
        x.terms(0, 16);
        x.terms(1, 0);
        // each code is empty, each likely 16 to the 12th: like odds but for nothing's weight
        due("even upper", x.odds(0, 0), 9);
        due("even lower", x.odds(0, 1), 109);
        x.terms(1, 3);
        x.rule(0, 0, 0, 2, 0);
        x.terms(0, 5);
        // causes with a sign lost: 5 by 13 of the others; 45 by 6 * 45 + 6 * 117 + 13
        due("lost upper", x.odds(0, 0), 9);
        due("lost lower", x.odds(0, 1), 197);
        x.see(4095);
        x.terms(0, 1);
        // all seen: 3 each, but 15 for a code's sign; 45 by 6 * 45 + 6 * 9 + 1
        due("seen upper", x.odds(0, 0), 9);
        due("seen lower", x.odds(0, 1), 65);
        // seven lost signs of one cause: 7 to the 7th, by that and (3 * 3 + 2) times 13 to the 7th
        CauseBook y = objects(0, 1, 1, 1);
        for (int e = 1; e < 8; e++) {
            y.sign(0, e);
            y.rule(0, 0, 0, e, 0);
        }
        y.cause(0, 0, 1);
        y.cause(1, 0, 3);
        y.terms(0, 7);
        y.terms(1, 3);
        y.terms(2, 2);
        due("long upper", y.odds(0, 0), 823543L);
        due("long lower", y.odds(0, 1), 823543L + 11 * 62748517L);
    }

    private static void linksAndOrder() {
        promise(30);
        CauseBook x = star();
        due("each alike: the first", x.weakest(0), 0);
        due("each alike: one", x.weakest(1), 1);
        due("what 2", x.weakest(2), NONE);
        due("what -1", x.weakest(-1), NONE);
        x = objects(0, 0, 1, 2);
        due("no links", x.weakest(0), NONE);
        x.link(0, 0, 2);
        x.link(0, 1, 2);
        x.link(0, 2, 3);
        due("no causes", x.weakest(0) * 10 + x.weakest(1), 0);
        x.rule(1, 0, 0, 8, 1);
        x.rule(1, 8, 0, 16, 1);
        x.cause(0, 0, 1);
        x.sign(2, 0);
        x.book(0);
        due("both go by it", x.weakest(0), 2);
        due("both", x.weakest(1), 2);
        due("the codes are as before", x.code(1), 1);
        x.link(1, 2, 3);
        due("of another relation", x.weakest(0), 2);
        x = objects(0, 0, 1);
        x.link(0, 0, 2);
        x.link(0, 1, 2);
        x.rule(3, 0, 0, 8, 0);
        x.cause(0, 0, 1);
        x.sign(1, 0);
        due("a link cut may bring a sign", x.weakest(1), 1);

        promise(31);
        x = chain();
        int[] order = {1, 2, 3, 0, NONE};
        for (int i = 0; i < 5; i++) {
            due("ordered(0, " + i + ")", x.ordered(0, i), order[i]);
        }
        due("ordered(0, -1)", x.ordered(0, -1), NONE);
        due("no such cause", x.ordered(1, 0), NONE);
        due("no such cause", x.ordered(-1, 0), NONE);
        x.book(0);
        due("whatever the book", x.ordered(0, 0), 1);

        promise(32);
        x = chain();
        due("alone", x.sure(0), 0);
        due("no such cause", x.sure(1), NONE);
        due("no such cause", x.sure(-1), NONE);
        // another cause with signs 1 and 2 alone: seen 0: 4 and 2; at 1: 2 and 0; at 4: 1 and 1; at 7: 0 and 2
        x.drop(3);
        x.rule(0, 0, 0, 4, 4);
        x.cause(0, 5, 1);
        due("the last sign tells", x.sure(0), 7);
        due("nothing is nearer to the smaller one", x.sure(1), 0);
        x.book(8);
        due("by the book", x.sure(0), 4);
        x.book(6);
        due("one group", x.sure(0), 0);
    }

    private static void groupsAndAsking() {
        promise(34);
        CauseBook x = star();
        due("how many", x.groups(0), 3);
        due("margin", x.groups(1), 1);
        due("corrected", x.groups(2), 0);
        due("empty", x.groups(3), 0);
        due("in no code", x.groups(4), 0);
        due("what 5", x.groups(5), NONE);
        due("what -1", x.groups(-1), NONE);
        x.book(1);
        due("two", x.groups(0), 2);
        due("margin", x.groups(1), 1);
        due("empty", x.groups(3), 6);
        x.book(4);
        due("two", x.groups(0), 2);
        due("empty", x.groups(3), 1);
        x.book(0);
        due("one", x.groups(0), 1);
        due("no margin", x.groups(1), NONE);
        due("nor corrected", x.groups(2), NONE);
        x.cut(0);
        due("whatever the book", x.groups(4), 1);
        x = gate();
        due("what only two have is in no code", x.groups(4), 3);
        x = chain();
        x.cause(0, 7, 1);
        due("margin of four", x.groups(1), 4);
        due("corrected, downwards", x.groups(2), 1);
        x.book(7);
        due("corrected of three", x.groups(2), 1);
        x.book(3);
        due("corrected of two", x.groups(2), 0);

        promise(35);
        x = star();
        due("group(2)", x.group(2), 2);
        x.book(1);
        due("group(0)", x.group(0), 0);
        due("group(1)", x.group(1), 1);
        due("group(2)", x.group(2), 1);
        x.book(0);
        due("group(2)", x.group(2), 0);
        due("group(3)", x.group(3), NONE);
        due("group(-1)", x.group(-1), NONE);

        promise(36);
        x = star();
        due("reduced(1)", x.reduced(1), 2);
        due("reduced(2)", x.reduced(2), 3);
        due("reduced(0)", x.reduced(0), NONE);
        due("reduced(7)", x.reduced(7), NONE);
        x.book(1);
        due("whatever the book", x.reduced(1), 2);
        due("the book is as it was", x.count(5), 1);
        x = chain();
        for (int d = 1; d <= 6; d++) {
            due("reduced(" + d + ")", x.reduced(d), Math.min(d, 4));
        }

        promise(37);
        x = star();
        x.see(2);
        due("sign", x.ask(0), 0);
        due("greater part", x.ask(1), 1);
        due("what 2", x.ask(2), NONE);
        due("what -1", x.ask(-1), NONE);
        x.see(4);
        due("one is nearest", x.ask(0), NONE);
        x.book(0);
        due("an empty book", x.ask(0), NONE);
        x.book(2);
        // sign 1 is not seen: just cause 2 is nearest
        due("one", x.ask(1), NONE);
        x.see(2);
        due("both have it", x.ask(0), 1);
        due("both", x.ask(1), 2);
        x = objects(0, 0, 0, 0);
        x.sign(0, 1);
        x.rule(0, 0, 0, 1, 0);
        x.cause(0, 0, 1);
        x.see(0);
        due("four, one by one", x.nearest(1), 4);
        due("the first of like ones", x.ask(0), 0);
        due("three are the greater part", x.ask(1), 3);
    }

    private static void logs() {
        promise(33);
        CauseBook x = star();
        due("an empty log", x.busiest(5, 0), 0);
        due("none", x.busiest(5, 1), 0);
        x.note(0, 20);
        x.note(0, 21);
        x.note(1, 25);
        x.note(2, 28);
        due("w 1", x.busiest(1, 0), 20);
        due("w 1", x.busiest(1, 1), 1);
        due("w 5", x.busiest(5, 0), 21);
        due("w 5", x.busiest(5, 1), 2);
        due("w 8", x.busiest(8, 0), 21);
        due("w 8", x.busiest(8, 1), 3);
        due("w 10", x.busiest(10, 0), 19);
        due("w 999", x.busiest(999, 0), 0);
        due("w 999", x.busiest(999, 1), 3);
        x.note(1, 12);
        x.note(2, 10);
        x.note(0, 10);
        due("an earlier one, told later", x.busiest(8, 0), 5);
        due("w 5", x.busiest(5, 0), 8);
        due("w 5", x.busiest(5, 1), 3);
        x.undo();
        x.undo();
        x.undo();
        due("w 0", x.busiest(0, 0), NONE);
        due("w 1000", x.busiest(1000, 1), NONE);
        due("what 2", x.busiest(5, 2), NONE);
        due("what -1", x.busiest(5, -1), NONE);

        promise(38);
        due("how many", x.cuts(5, NONE, 0), 2);
        due("how many, whatever what", x.cuts(5, NONE, 9), 2);
        due("begins", x.cuts(5, 0, 0), 20);
        due("signs", x.cuts(5, 0, 1), 1);
        due("nearest", x.cuts(5, 0, 2), 0);
        due("begins", x.cuts(5, 1, 0), 25);
        due("signs", x.cuts(5, 1, 1), 6);
        due("nearest", x.cuts(5, 1, 2), 1);
        due("no third", x.cuts(5, 2, 0), NONE);
        due("i -2", x.cuts(5, -2, 0), NONE);
        due("what 3", x.cuts(5, 0, 3), NONE);
        due("what -1", x.cuts(5, 0, -1), NONE);
        due("w 0", x.cuts(0, NONE, 0), NONE);
        due("w 1000", x.cuts(1000, NONE, 0), NONE);
        due("w 1: each time", x.cuts(1, NONE, 0), 4);
        due("w 6: a window ends below", x.cuts(6, NONE, 0), 2);
        due("w 8", x.cuts(8, 1, 0), 28);
        due("w 9", x.cuts(9, NONE, 0), 1);
        x.note(2, 3);
        due("in the order of times", x.cuts(5, 0, 0), 3);
        x.cause(0, 0, 0);
        due("no causes", x.cuts(5, 0, 2), NONE);
        due("seen is as it was", x.count(6), 0);

        promise(39);
        x = chain();
        // signs 0 .. 3 at 7, 1, 1, 4
        x.note(1, 11);
        x.note(2, 12);
        x.note(3, 14);
        x.note(0, 18);
        x.note(1, 9);
        due("start 10, slack 1", x.explains(0, 10), 4);
        due("start 9", x.explains(0, 9), 3);
        due("start 0", x.explains(0, 0), 0);
        due("start 999", x.explains(0, 999), 0);
        due("start 1000", x.explains(0, 1000), NONE);
        due("start -1", x.explains(0, -1), NONE);
        due("no such cause", x.explains(1, 0), NONE);
        due("no such cause", x.explains(-1, 0), NONE);
        x.terms(3, 0);
        due("start 10, slack 0", x.explains(0, 10), 2);
        x.terms(3, 2);
        due("start 10, slack 2", x.explains(0, 10), 5);

        promise(40);
        due("slack 2: start", x.best(0, 0), 9);
        due("slack 2: how many", x.best(0, 1), 5);
        x.terms(3, 1);
        due("slack 1: start", x.best(0, 0), 10);
        due("slack 1: how many", x.best(0, 1), 4);
        due("what 2", x.best(0, 2), NONE);
        due("what -1", x.best(0, -1), NONE);
        due("no such cause", x.best(1, 0), NONE);
        x.cause(0, 7, 1);
        due("by none: start", x.best(1, 0), 0);
        due("by none: how many", x.best(1, 1), 0);
        x.clear();
        x.note(0, 60);
        x.note(1, 54);
        x.note(1, 31);
        x.note(0, 37);
        due("an earlier one, told later", x.best(0, 0) * 10 + x.best(0, 1), 292);
        x.clear();
        x.note(0, 6);
        due("not ahead of 0", x.best(0, 0) * 10 + x.best(0, 1), 1);
        x.note(0, 3);
        due("too early for any start", x.best(0, 1), 1);
        covers();
    }

    private static void covers() {
        promise(41);
        CauseBook x = star();
        due("an empty log", x.cover(), 0);
        // codes 3, 6, 4, each sign 2 after the start
        x.note(0, 10);
        x.note(1, 11);
        due("by one", x.cover(), 1);
        x.note(2, 10);
        due("by two", x.cover(), 2);
        x.note(2, 50);
        due("by three", x.cover(), 3);
        x.note(2, 52);
        due("slack holds it", x.cover(), 3);
        x.note(2, 53);
        due("by more than three", x.cover(), NONE);
        x.clear();
        x.note(0, 0);
        due("ahead of any start", x.cover(), NONE);
        x.terms(3, 2);
        due("slack 2", x.cover(), 1);
        x.note(0, 100);
        x.note(0, 200);
        due("one begins three times", x.cover(), 3);
        x.cause(0, 0, 0);
        due("no causes", x.cover(), NONE);
    }

    private static void facts() {
        promise(42);
        CauseBook x = chain();
        int[] want = {0, 0, 2, 4, 7, NONE};
        for (int what = 0; what < 6; what++) {
            due("ofCause(0, " + what + ")", x.ofCause(0, what), want[what]);
        }
        due("what -1", x.ofCause(0, -1), NONE);
        due("no such", x.ofCause(1, 0), NONE);
        due("no such", x.ofCause(-1, 0), NONE);
        x.cause(0, 7, 1);
        due("event", x.ofCause(1, 1), 7);
        due("no signs", x.ofCause(1, 3), 0);
        due("no time", x.ofCause(1, 4), NONE);

        promise(43);
        x = star();
        x.book(6);
        x.see(1);
        int[][] signs = {{3, 1, 0, 1, 1}, {4, 1, 1, 0, 3}, {5, 1, 1, 0, 6}};
        for (int s = 0; s < 3; s++) {
            for (int what = 0; what < 5; what++) {
                due("ofSign(" + s + ", " + what + ")", x.ofSign(s, what), signs[s][what]);
            }
        }
        due("what 5", x.ofSign(0, 5), NONE);
        due("what -1", x.ofSign(0, -1), NONE);
        due("no such", x.ofSign(3, 0), NONE);
        due("no such", x.ofSign(-1, 0), NONE);

        promise(44);
        x = objects(3, 1, 2);
        x.link(0, 0, 1);
        x.link(0, 0, 2);
        x.link(1, 1, 0);
        x.link(2, 2, 0);
        int[][] rows = {{3, 6, 0, 0, 0, 2, 4}, {1, 0, 1, 0, 1, 0, 0}, {2, 0, 0, 1, 1, 0, 0}};
        for (int o = 0; o < 3; o++) {
            for (int what = 0; what < 7; what++) {
                due("ofObject(" + o + ", " + what + ")", x.ofObject(o, what), rows[o][what]);
            }
        }
        due("what 7", x.ofObject(0, 7), NONE);
        due("what -1", x.ofObject(0, -1), NONE);
        due("no such", x.ofObject(3, 0), NONE);
        due("no such", x.ofObject(-1, 0), NONE);

        promise(45);
        x.rule(2, 31, 1, 17, 9);
        int[] rule = {2, 31, 1, 17, 9, NONE};
        for (int what = 0; what < 6; what++) {
            due("ofRule(0, " + what + ")", x.ofRule(0, what), rule[what]);
        }
        due("what -1", x.ofRule(0, -1), NONE);
        due("no such", x.ofRule(1, 0), NONE);
        due("no such", x.ofRule(-1, 0), NONE);

        promise(46);
        x = star();
        x.note(2, 7);
        x.book(3);
        x.see(4);
        x.object(7);
        x.cut(9);
        x.note(9, 9);
        x.link(0, 0, 3);
        x.cause(0, 0, 4);
        x.back(0);
        x.cause(0, 1, 1);
        x.cause(0, 2, 1);
        x.cause(0, 3, 1);
        x.cause(0, 4, 1);
        stands("all", x, 6, 5, 1, 12, 3, 3, 4, 1, 10, 1, 2, 3, 1, 2, 1, 1, 1, NONE);
        due("count(-1)", x.count(-1), NONE);
        due("count(LOW)", x.count(LOW), NONE);
        due("count(HIGH)", x.count(HIGH), NONE);
        statusOfAll();
    }

    private static void statusOfAll() {
        promise(47);
        CauseBook x = star();
        due("status", x.status(), 0);
        x.undo();
        for (int call = 0; call < 16; call++) {
            refused("call " + call + " of those told", x, refusedCall(x, call), REFUSED_BY[call]);
            x.code(99);
            x.time(-1, 0, 0);
            x.ofRule(77, 0);
            x.sure(99);
            due("questions tell nothing", x.status(), REFUSED_BY[call]);
            x.clear();
            due("nor does clear", x.status(), REFUSED_BY[call]);
            x.terms(0, 2);
            due("a call that is not refused", x.status(), 0);
        }
        CauseBook y = objects(0);
        int[] answers = {y.object(5), y.image(0), y.status(), y.object(5), y.back(0), y.status()};
        due("image ends it", answers[2], 0);
        due("back ends it", answers[5], 0);
        y.object(5);
        y.object(0);
        y.object(5);
        y.undo();
        due("undo ends it", y.status(), 0);
    }

    private static final int[] REFUSED_BY = {-1, -1, -2, -2, -1, -2, -4, -1, -1, -1, -1, -2, -1, -4, -1, -4};

    private static int refusedCall(CauseBook x, int call) {
        switch (call) {
            case 0: return x.terms(9, 0);
            case 1: return x.object(9);
            case 2: return x.link(0, 9, 0);
            case 3: return x.cut(9);
            case 4: return x.rule(9, 0, 0, 0, 0);
            case 5: return x.drop(9);
            case 6: return x.cause(0, 0, 4);
            case 7: return x.sign(9, 0);
            case 8: return x.reduce(9);
            case 9: return x.book(-9);
            case 10: return x.see(-9);
            case 11: return x.note(99, 0);
            case 12: return x.window(0, 0);
            case 13: return refusedUndo(x);
            case 14: return x.image(9);
            default: return x.back(0);
        }
    }

    private static int refusedUndo(CauseBook x) {
        for (int i = 0; i < 10; i++) {
            x.undo();
        }
        return x.undo();
    }
}
