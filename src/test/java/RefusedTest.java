import java.util.ArrayList;
import java.util.List;

/**
 * "What is REFUSED changes nothing but what is told of it", and "the first of these in that order": each call
 * that is REFUSED is made on one of two objects made alike, of which then all is asked that can be asked.
 */
public final class RefusedTest extends Checks {
    private interface Maker {
        CauseBook make();
    }

    private interface Call {
        int on(CauseBook x);
    }

    private static final int[] PLACES = {-1, -2, -4, -5};
    /** Parts of all that can be asked: each is asked of new objects, so that none is used for more than 512 calls. */
    private static final int PARTS = 6;

    public static void main(String[] args) {
        makers();
        terms();
        object();
        link();
        cut();
        rule();
        drop();
        cause();
        sign();
        reduceBookSee();
        note();
        window();
        undo();
        imageAndBack();
        report("RefusedTest");
    }

    // ---- the objects on which calls are REFUSED

    /** Something of all, with room for more: 8 OBJECTS, 8 LINKS, 6 RULES, 5 CAUSES, 6 SIGNS, 4 entries, both IMAGES. */
    private static CauseBook rich() {
        CauseBook x = objects(0, 0, 0, 1, 1, 1, 2, 2);
        int[][] links = {{0, 0, 3}, {0, 1, 3}, {0, 1, 4}, {0, 2, 5}, {1, 3, 6}, {1, 4, 6}, {1, 5, 7}, {2, 7, 0}};
        for (int[] l : links) {
            x.link(l[0], l[1], l[2]);
        }
        int[][] rules = {{0, 0, 0, 1, 1}, {1, 0, 0, 8, 2}, {3, 8, 1, 16, 3}, {4, 0, 0, 9, 1}, {2, 16, 1, 10, 4},
            {1, 16, 2, 2, 5}};
        for (int[] r : rules) {
            x.rule(r[0], r[1], r[2], r[3], r[4]);
        }
        x.cause(0, 0, 3);
        x.cause(2, 0, 5);
        x.sign(1, 0);
        x.image(0);
        x.sign(0, 2);
        x.terms(0, 3);
        x.terms(1, 2);
        x.terms(2, 4);
        x.terms(3, 2);
        x.book(47);
        x.see(20);
        x.note(3, 30);
        x.note(1, 10);
        x.image(1);
        x.object(9);
        x.cut(99);
        x.cut(7);
        x.undo();
        x.note(0, 2);
        x.note(5, 12);
        return x;
    }

    private static CauseBook tenObjects() {
        CauseBook x = rich();
        x.object(3);
        x.object(3);
        return x;
    }

    private static CauseBook twentyLinks() {
        CauseBook x = rich();
        for (int i = 0; x.count(1) < 20 && i < 56; i++) {
            x.link(2, i / 7, (i / 7 + 1 + i % 7) % 8);
        }
        return x;
    }

    private static CauseBook twelveRules() {
        CauseBook x = rich();
        for (int i = 0; i < 6; i++) {
            x.rule(i % 5, i, i % 3, i + 8, i);
        }
        return x;
    }

    /** Twelve CAUSES: of KINDS 0 (two EVENTS), 1 (one), 2 (one), and one told for KIND 3, of which there is none. */
    private static CauseBook manyCauses() {
        CauseBook x = rich();
        x.cause(0, 5, 2);
        x.cause(1, 3, 1);
        x.object(2);
        x.cause(3, 1, 1);
        return x;
    }

    /** Twelve SIGNS; one more is told for KIND 3, of which there is none. */
    private static CauseBook manySigns() {
        CauseBook x = rich();
        x.sign(1, 2);
        x.sign(0, 1);
        x.sign(3, 0);
        x.book(1023);
        x.see(700);
        x.note(11, 5);
        return x;
    }

    private static CauseBook twentyEntries() {
        CauseBook x = rich();
        for (int i = 4; i < 20; i++) {
            x.note(i % 6, i * 50);
        }
        return x;
    }

    /** Each is as full as it is told to be. */
    private static void makers() {
        promise(1, "the objects on which calls are REFUSED");
        stands("rich", rich(), 8, 8, 6, 5, 6, 47, 20, 4, 10, 1, 1, 0, 0, 3, 2, 4, 2);
        stands("ten objects", tenObjects(), 10, 8, 6, 5, 6, 47, 20, 4);
        stands("twenty links", twentyLinks(), 8, 20, 6, 5, 6, 47, 20, 4);
        stands("twelve rules", twelveRules(), 8, 8, 12, 5, 6, 47, 20, 4);
        stands("twelve causes", manyCauses(), 9, 8, 6, 12, 6, 47, 20, 4);
        stands("twelve signs", manySigns(), 8, 8, 6, 5, 12, 1023, 700, 1);
        stands("twenty entries", twentyEntries(), 8, 8, 6, 5, 6, 47, 20, 20);
        due("image 0", rich().back(0), 8);
        due("image 1", rich().back(1), 8);
    }

    // ---- the check

    /** The call is REFUSED by this, that is told, and all else is as without the call. */
    private static void refusedBy(int by, String what, Maker maker, Call call) {
        for (int part = 0; part < PARTS; part++) {
            CauseBook x = maker.make();
            CauseBook y = maker.make();
            int[] were = toldOf(y);
            due(what, call.on(x), by);
            due(what + ": status", x.status(), by);
            int[] are = toldOf(x);
            for (int i = 0; i < PLACES.length; i++) {
                due(what + ": how many by " + PLACES[i], are[i], were[i] + (PLACES[i] == by ? 1 : 0));
            }
            List<Long> got = ask(x, part);
            List<Long> want = ask(y, part);
            due(what + ": answers", got.size(), want.size());
            for (int i = 0; i < Math.min(got.size(), want.size()); i++) {
                due(what + ": part " + part + ", answer " + i, got.get(i), want.get(i));
            }
        }
    }

    private static int[] toldOf(CauseBook x) {
        return new int[] {x.count(9), x.count(10), x.count(11), x.count(12)};
    }

    private static List<Long> ask(CauseBook x, int part) {
        List<Long> told = new ArrayList<>();
        switch (part) {
            case 0: askWhatStands(x, told); break;
            case 1: askCausesAndSigns(x, told); break;
            case 2: askDecoded(x, told); break;
            case 3: askLog(x, told); break;
            case 4:
                for (int i = 0; i < 11; i++) {
                    told.add((long) x.undo());
                    askInShort(x, told);
                }
                break;
            default:
                for (int k = 0; k < 2; k++) {
                    told.add((long) x.back(k));
                    askInShort(x, told);
                    askLog(x, told);
                }
                break;
        }
        return told;
    }

    private static void askCounts(CauseBook x, List<Long> told) {
        for (int what = 0; what <= 16; what++) {
            if (what < 9 || what > 12) {
                told.add((long) x.count(what));
            }
        }
    }

    private static void askInShort(CauseBook x, List<Long> told) {
        askCounts(x, told);
        for (int o = 0; o < 10; o++) {
            told.add((long) x.ofObject(o, 0));
        }
        told.add((long) x.ofObject(7, 3));
        told.add((long) x.ofRule(5, 1));
        told.add((long) x.code((1 << x.count(3)) - 1));
        told.add((long) x.code(1));
        told.add((long) x.cuts(1, 0, 0));
        told.add((long) x.ofCause(0, 2));
        told.add((long) x.ofSign(3, 0));
    }

    private static void askWhatStands(CauseBook x, List<Long> told) {
        askCounts(x, told);
        for (int o = 0; o < 10; o++) {
            for (int what = 0; what < 7; what++) {
                told.add((long) x.ofObject(o, what));
            }
        }
        for (int r = 0; r < 12; r++) {
            for (int what = 0; what < 5; what++) {
                told.add((long) x.ofRule(r, what));
            }
        }
        // numbers of LINKS are told only by what is cut
        int links = x.count(1);
        for (int i = 0; i < links; i++) {
            told.add((long) x.cut(0));
            told.add((long) x.ofObject(i % 8, 1));
            told.add((long) x.ofObject(i % 8, 2));
            told.add((long) x.ofObject(i % 8, 3));
        }
    }

    private static void askCausesAndSigns(CauseBook x, List<Long> told) {
        for (int i = 0; i < 12; i++) {
            for (int what = 0; what < 5; what++) {
                told.add((long) x.ofCause(i, what));
                told.add((long) x.ofSign(i, what));
            }
            told.add((long) x.code(1 << i));
            told.add((long) x.group(i));
            told.add((long) x.sure(i));
            told.add((long) x.ordered(i, 0));
            told.add((long) x.ordered(i, 2));
            told.add((long) x.spread(1 << i, 0));
            told.add((long) x.spread(1 << i, 1));
            told.add((long) x.spread(1 << i, 3));
            told.add((long) x.time(1 << i, 6, 0));
            told.add((long) x.distance(i, 0, 0));
            told.add((long) x.distance(i, NONE, 1));
        }
    }

    private static void askDecoded(CauseBook x, List<Long> told) {
        for (int what = 0; what < 5; what++) {
            told.add((long) x.nearest(what));
            told.add((long) x.groups(what));
            told.add((long) x.hold(what));
            told.add((long) x.likeliest(what));
            told.add((long) x.weakest(what));
            told.add((long) x.ask(what));
            told.add((long) x.joint(1, what));
            told.add((long) x.joint(3, what));
        }
        for (int i = -1; i < 12; i++) {
            told.add(x.odds(i, 0));
            told.add(x.odds(i, 1));
            told.add((long) x.ranked(i));
            told.add((long) x.reduced(i));
            told.add((long) x.minimal(i, NONE));
            told.add((long) x.minimal(i, 0));
        }
    }

    private static void askLog(CauseBook x, List<Long> told) {
        for (int i = -1; i < 20; i++) {
            told.add((long) x.cuts(1, i, 0));
            told.add((long) x.cuts(1, i, 1));
            told.add((long) x.cuts(15, i, 2));
        }
        for (int c = 0; c < 12; c++) {
            told.add((long) x.best(c, 0));
            told.add((long) x.best(c, 1));
            told.add((long) x.explains(c, 5));
        }
        told.add((long) x.busiest(10, 0));
        told.add((long) x.busiest(10, 1));
        told.add((long) x.cover());
    }

    // ---- the calls

    private static void terms() {
        promise(2, "REFUSED by -1");
        int[][] wrong = {{-1, 1}, {4, 1}, {0, -1}, {0, 17}, {1, -1}, {1, 17}, {2, -1}, {2, 10}, {3, -1}, {3, 6},
            {LOW, LOW}, {HIGH, HIGH}, {0, HIGH}, {3, LOW}};
        for (int[] w : wrong) {
            refusedBy(-1, "terms(" + w[0] + ", " + w[1] + ")", RefusedTest::rich, x -> x.terms(w[0], w[1]));
        }
    }

    private static void object() {
        promise(3, "REFUSED by -1, -5");
        for (int kind : new int[] {-1, 4, 8, LOW, HIGH}) {
            refusedBy(-1, "object(" + kind + ")", RefusedTest::rich, x -> x.object(kind));
            refusedBy(-1, "object(" + kind + "), no room", RefusedTest::tenObjects, x -> x.object(kind));
        }
        for (int kind = 0; kind < 4; kind++) {
            int k = kind;
            refusedBy(-5, "object(" + k + "), the eleventh", RefusedTest::tenObjects, x -> x.object(k));
        }
        for (int kind : new int[] {0, 1, 2, 3}) {
            refusedBy(-5, "object(" + kind + "), causes", RefusedTest::manyCauses, x -> x.object(kind));
        }
        for (int kind : new int[] {0, 1, 3}) {
            refusedBy(-5, "object(" + kind + "), signs", RefusedTest::manySigns, x -> x.object(kind));
        }
        due("of another KIND", manySigns().object(2), 8);
    }

    private static void link() {
        promise(4, "REFUSED by -1, -2, -4, -5");
        int[][] relation = {{-1, 0, 1}, {3, 0, 1}, {LOW, 0, 1}, {HIGH, 0, 1}, {3, 8, 0}, {3, 0, -1}, {-1, 2, 2}, {3, 99, 99}};
        int[][] noSuch = {{1, -1, 0}, {1, 8, 0}, {1, 0, -1}, {1, 0, 8}, {1, 8, 8}, {1, -1, -1}, {1, LOW, 0}, {1, 0, HIGH}};
        int[][] cannot = {{0, 0, 0}, {1, 7, 7}, {0, 0, 3}, {2, 7, 0}};
        for (Maker maker : new Maker[] {RefusedTest::rich, RefusedTest::twentyLinks}) {
            for (int[] l : relation) {
                refusedBy(-1, "link(" + l[0] + ", " + l[1] + ", " + l[2] + ")", maker, x -> x.link(l[0], l[1], l[2]));
            }
            for (int[] l : noSuch) {
                refusedBy(-2, "link(" + l[0] + ", " + l[1] + ", " + l[2] + ")", maker, x -> x.link(l[0], l[1], l[2]));
            }
            for (int[] l : cannot) {
                refusedBy(-4, "link(" + l[0] + ", " + l[1] + ", " + l[2] + ")", maker, x -> x.link(l[0], l[1], l[2]));
            }
        }
        refusedBy(-5, "the twenty-first", RefusedTest::twentyLinks, x -> x.link(1, 0, 1));
    }

    private static void cut() {
        promise(5, "REFUSED by -2");
        for (int link : new int[] {-1, 8, LOW, HIGH}) {
            refusedBy(-2, "cut(" + link + ")", RefusedTest::rich, x -> x.cut(link));
        }
        refusedBy(-2, "cut(20)", RefusedTest::twentyLinks, x -> x.cut(20));
        refusedBy(-2, "none is there", CauseBook::new, x -> x.cut(0));
    }

    private static void rule() {
        promise(6, "REFUSED by -1, -5");
        int[] most = {4, 31, 2, 31, 9};
        for (Maker maker : new Maker[] {RefusedTest::rich, RefusedTest::twelveRules}) {
            for (int part = 0; part < 5; part++) {
                for (int value : new int[] {-1, most[part] + 1, LOW, HIGH}) {
                    int[] r = {1, 1, 1, 1, 1};
                    r[part] = value;
                    refusedBy(-1, "rule, part " + part + " " + value, maker, x -> x.rule(r[0], r[1], r[2], r[3], r[4]));
                }
            }
            refusedBy(-1, "SAME, RELATION 3", maker, x -> x.rule(0, 0, 3, 1, 0));
            refusedBy(-1, "SAME, b 32", maker, x -> x.rule(0, 0, 0, 32, 0));
        }
        refusedBy(-5, "the thirteenth", RefusedTest::twelveRules, x -> x.rule(1, 0, 0, 8, 0));
    }

    private static void drop() {
        promise(7, "REFUSED by -2");
        for (int rule : new int[] {-1, 6, LOW, HIGH}) {
            refusedBy(-2, "drop(" + rule + ")", RefusedTest::rich, x -> x.drop(rule));
        }
        refusedBy(-2, "drop(12)", RefusedTest::twelveRules, x -> x.drop(12));
        refusedBy(-2, "none is there", CauseBook::new, x -> x.drop(0));
    }

    private static void cause() {
        promise(8, "REFUSED by -1, -4, -5");
        int[][] wrong = {{-1, 0, 1}, {4, 0, 1}, {0, -1, 1}, {0, 8, 1}, {0, 0, -1}, {0, 0, 10}, {LOW, 0, 1}, {0, HIGH, 1},
            {0, 0, HIGH}, {4, 0, 0}, {0, 8, 0}};
        for (Maker maker : new Maker[] {RefusedTest::rich, RefusedTest::manyCauses}) {
            for (int[] c : wrong) {
                refusedBy(-1, "cause(" + c[0] + ", " + c[1] + ", " + c[2] + ")", maker, x -> x.cause(c[0], c[1], c[2]));
            }
            refusedBy(-4, "it is so", maker, x -> x.cause(0, 0, 3));
            refusedBy(-4, "it is so", maker, x -> x.cause(2, 0, 5));
            refusedBy(-4, "it is none", maker, x -> x.cause(0, 7, 0));
            refusedBy(-4, "it is none, nor is the KIND", maker, x -> x.cause(3, 7, 0));
        }
        refusedBy(-5, "of three OBJECTS", RefusedTest::manyCauses, x -> x.cause(0, 7, 1));
        refusedBy(-5, "of three OBJECTS", RefusedTest::manyCauses, x -> x.cause(1, 0, 9));
        due("of none", manyCauses().cause(3, 0, 9), 0);
        due("of another weight", manyCauses().cause(0, 0, 9), 3);
    }

    private static void sign() {
        promise(9, "REFUSED by -1, -5");
        int[][] wrong = {{-1, 0}, {4, 0}, {0, -1}, {0, 8}, {LOW, 0}, {0, HIGH}};
        for (Maker maker : new Maker[] {RefusedTest::rich, RefusedTest::manySigns}) {
            for (int[] s : wrong) {
                refusedBy(-1, "sign(" + s[0] + ", " + s[1] + ")", maker, x -> x.sign(s[0], s[1]));
            }
        }
        refusedBy(-5, "of three OBJECTS", RefusedTest::manySigns, x -> x.sign(0, 0));
        refusedBy(-5, "of two OBJECTS", RefusedTest::manySigns, x -> x.sign(2, 7));
        due("of none", manySigns().sign(3, 7), 12);
        due("taken back", manySigns().sign(0, 1), 9);
    }

    private static void reduceBookSee() {
        promise(10, "REFUSED by -1");
        for (int d : new int[] {0, 7, -1, LOW, HIGH}) {
            refusedBy(-1, "reduce(" + d + ")", RefusedTest::rich, x -> x.reduce(d));
        }
        for (int signs : new int[] {64, 65, 127, 128, -1, LOW, HIGH, 1 << 30}) {
            promise(11, "REFUSED by -1");
            refusedBy(-1, "book(" + signs + ")", RefusedTest::rich, x -> x.book(signs));
            promise(12, "REFUSED by -1");
            refusedBy(-1, "see(" + signs + ")", RefusedTest::rich, x -> x.see(signs));
        }
        refusedBy(-1, "see(4096)", RefusedTest::manySigns, x -> x.see(4096));
        refusedBy(-1, "see(1)", CauseBook::new, x -> x.see(1));
        promise(11, "REFUSED by -1");
        refusedBy(-1, "book(4096)", RefusedTest::manySigns, x -> x.book(4096));
        refusedBy(-1, "book(1)", CauseBook::new, x -> x.book(1));
    }

    private static void note() {
        promise(13, "REFUSED by -1, -2, -5");
        int[][] time = {{0, -1}, {0, 1000}, {0, LOW}, {0, HIGH}, {6, 1000}, {-1, -1}};
        int[][] noSuch = {{-1, 0}, {6, 0}, {6, 999}, {LOW, 0}, {HIGH, 0}};
        for (Maker maker : new Maker[] {RefusedTest::rich, RefusedTest::twentyEntries}) {
            for (int[] n : time) {
                refusedBy(-1, "note(" + n[0] + ", " + n[1] + ")", maker, x -> x.note(n[0], n[1]));
            }
            for (int[] n : noSuch) {
                refusedBy(-2, "note(" + n[0] + ", " + n[1] + ")", maker, x -> x.note(n[0], n[1]));
            }
        }
        refusedBy(-5, "the twenty-first", RefusedTest::twentyEntries, x -> x.note(5, 999));
        refusedBy(-2, "no SIGNS", CauseBook::new, x -> x.note(0, 0));
    }

    private static void window() {
        promise(15, "REFUSED by -1");
        int[][] wrong = {{-1, 1}, {1000, 1}, {0, 0}, {0, 1000}, {0, -1}, {LOW, 5}, {HIGH, 5}, {5, LOW}, {5, HIGH}};
        for (int[] w : wrong) {
            refusedBy(-1, "window(" + w[0] + ", " + w[1] + ")", RefusedTest::rich, x -> x.window(w[0], w[1]));
        }
    }

    private static void undo() {
        promise(16, "REFUSED by -4");
        refusedBy(-4, "nothing is there", CauseBook::new, CauseBook::undo);
        refusedBy(-4, "after back()", RefusedTest::broughtBack, CauseBook::undo);
        refusedBy(-4, "after ten of them", RefusedTest::undone, CauseBook::undo);
    }

    private static CauseBook broughtBack() {
        CauseBook x = rich();
        x.back(1);
        return x;
    }

    private static CauseBook undone() {
        CauseBook x = rich();
        for (int i = 0; i < 10; i++) {
            x.undo();
        }
        return x;
    }

    private static void imageAndBack() {
        for (int k : new int[] {-1, 2, LOW, HIGH}) {
            promise(17, "REFUSED by -1");
            refusedBy(-1, "image(" + k + ")", RefusedTest::rich, x -> x.image(k));
            promise(18, "REFUSED by -1, -4");
            refusedBy(-1, "back(" + k + ")", RefusedTest::rich, x -> x.back(k));
            refusedBy(-1, "back(" + k + "), none was kept", RefusedTest::several, x -> x.back(k));
        }
        refusedBy(-4, "back(0), none was kept", RefusedTest::several, x -> x.back(0));
        refusedBy(-4, "back(1), none was kept", RefusedTest::several, x -> x.back(1));
        refusedBy(-4, "back(1), the other was kept", RefusedTest::severalKept, x -> x.back(1));
    }

    private static CauseBook several() {
        CauseBook x = star();
        x.note(1, 7);
        x.see(5);
        x.book(3);
        return x;
    }

    private static CauseBook severalKept() {
        CauseBook x = several();
        x.image(0);
        x.object(1);
        return x;
    }
}
