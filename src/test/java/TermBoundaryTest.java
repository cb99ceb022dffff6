/** Boundary cases that the section "Terms" names, each on both sides, with answers worked out by hand. */
public final class TermBoundaryTest extends Checks {
    public static void main(String[] args) {
        calls();
        kinds();
        events();
        relations();
        objectNumbers();
        linkNumbers();
        ruleNumbers();
        delays();
        same();
        along();
        against();
        all();
        two();
        spreads();
        whatGoesBringsNothing();
        longSpread();
        causesAndSigns();
        twelveOfEither();
        termRanges();
        signsBecomeOthers();
        signsStayAsTheyAre();
        distances();
        reductions();
        reductionsOfTwelve();
        reductionsOfTwelveCauses();
        reductionsAfterOthers();
        nearestAndJoint();
        likely();
        oddsInLowestTerms();
        groups();
        rankedAndHold();
        minimals();
        asking();
        windows();
        explaining();
        report("TermBoundaryTest");
    }

    private static void calls() {
        terms("ahead", "An object is used for at most 512 calls");
        CauseBook x = objects(0);
        x.sign(0, 0);
        for (int call = 3; call <= 510; call++) {
            due("call " + call, x.see(call & 1), 1);
        }
        due("call 511", x.undo(), 9);
        due("call 512", x.count(6), 1);
    }

    private static void kinds() {
        terms("I", "KINDS 0 .. 3");
        CauseBook x = new CauseBook();
        taken("object(0)", x, x.object(0), 0);
        taken("object(3)", x, x.object(3), 1);
        refused("object(4)", x, x.object(4), -1);
        refused("object(-1)", x, x.object(-1), -1);
        due("of kind 0", x.ofObject(0, 0), 0);
        due("of kind 3", x.ofObject(1, 0), 3);
        taken("cause(0, 0, 1)", x, x.cause(0, 0, 1), 0);
        taken("cause(3, 0, 1)", x, x.cause(3, 0, 1), 0);
        refused("cause(4, 0, 1)", x, x.cause(4, 0, 1), -1);
        refused("cause(-1, 0, 1)", x, x.cause(-1, 0, 1), -1);
        due("causes", x.count(3), 2);
        taken("sign(0, 0)", x, x.sign(0, 0), 1);
        taken("sign(3, 0)", x, x.sign(3, 0), 2);
        refused("sign(4, 0)", x, x.sign(4, 0), -1);
        refused("sign(-1, 0)", x, x.sign(-1, 0), -1);
        due("signs", x.count(4), 2);
    }

    private static void events() {
        terms("I", "EVENTS 0 .. 7");
        CauseBook x = objects(0, 1);
        taken("cause(0, 0, 1)", x, x.cause(0, 0, 1), 0);
        taken("cause(0, 7, 1)", x, x.cause(0, 7, 1), 0);
        refused("cause(0, 8, 1)", x, x.cause(0, 8, 1), -1);
        refused("cause(1, -1, 1)", x, x.cause(1, -1, 1), -1);
        due("causes", x.count(3), 2);
        due("event 7", x.ofCause(1, 1), 7);
        taken("sign(0, 0)", x, x.sign(0, 0), 1);
        taken("sign(0, 7)", x, x.sign(0, 7), 2);
        refused("sign(0, 8)", x, x.sign(0, 8), -1);
        refused("sign(1, -1)", x, x.sign(1, -1), -1);
        due("signs", x.count(4), 2);
        due("event 7", x.ofSign(1, 1), 7);
        due("time of event 0", x.time(1, 0, 0), 0);
        due("time of event 7", x.time(2, 0, 7), 0);
        none("time of event 8", x.time(2, 0, 8));
        none("time of event -1", x.time(2, 1, -1));
    }

    private static void relations() {
        terms("I", "RELATIONS 0 .. 2");
        CauseBook x = objects(0, 0);
        taken("link(0, 0, 1)", x, x.link(0, 0, 1), 0);
        taken("link(2, 0, 1)", x, x.link(2, 0, 1), 1);
        refused("link(3, 0, 1)", x, x.link(3, 0, 1), -1);
        refused("link(-1, 0, 1)", x, x.link(-1, 0, 1), -1);
        taken("rule of 0", x, x.rule(1, 0, 0, 1, 0), 0);
        taken("rule of 2", x, x.rule(1, 0, 2, 2, 0), 1);
        refused("rule of 3", x, x.rule(1, 0, 3, 3, 0), -1);
        refused("rule of -1", x, x.rule(1, 0, -1, 3, 0), -1);
        x.cause(0, 0, 1);
        due("by relation 0", x.time(1, 1, 1), 0);
        due("by relation 2", x.time(1, 1, 2), 0);
        due("to which 0 leads", x.ofObject(0, 1), 2);
        due("to which 1 leads", x.ofObject(0, 2), 0);
        due("to which 2 leads", x.ofObject(0, 3), 2);
    }

    private static void objectNumbers() {
        terms("I", "OBJECTS 0 .. 9, as they come");
        CauseBook x = objects(0, 1, 2, 3, 0, 1, 2, 3, 0);
        refused("link to 9, ahead of it", x, x.link(0, 0, 9), -2);
        none("ofObject(9, 0), ahead of it", x.ofObject(9, 0));
        taken("the tenth", x, x.object(1), 9);
        refused("the eleventh", x, x.object(1), -5);
        taken("link to 9", x, x.link(0, 0, 9), 0);
        taken("link from 9", x, x.link(0, 9, 0), 1);
        refused("link to 10", x, x.link(0, 0, 10), -2);
        due("9 has a kind", x.ofObject(9, 0), 1);
        due("to which 0 leads", x.ofObject(0, 1), 512);
        none("10 has none", x.ofObject(10, 0));
        x.undo();
        x.undo();
        due("the tenth is undone", x.undo(), 0);
        taken("there is room again", x, x.object(3), 9);
    }

    private static void linkNumbers() {
        terms("I", "LINKS 0 .. 19: a RELATION from one OBJECT to another one; no two alike");
        CauseBook x = objects(0, 0, 0, 0, 0);
        for (int i = 0; i < 19; i++) {
            x.link(0, i / 4, i % 4 + (i % 4 >= i / 4 ? 1 : 0));
        }
        due("nineteen", x.count(1), 19);
        refused("such a one", x, x.link(0, 0, 1), -4);
        taken("the twentieth", x, x.link(0, 4, 3), 19);
        refused("one more", x, x.link(1, 0, 1), -5);
        due("twenty", x.count(1), 20);
        refused("cut(20)", x, x.cut(20), -2);
        taken("cut(19)", x, x.cut(19), 19);
        taken("there is room again", x, x.link(1, 0, 1), 19);
        x = objects(0, 0);
        taken("from 0 to 1", x, x.link(0, 0, 1), 0);
        taken("from 1 to 0 is another one", x, x.link(0, 1, 0), 1);
        taken("of another relation", x, x.link(1, 0, 1), 2);
        refused("from 0 to 1 again", x, x.link(0, 0, 1), -4);
        refused("from 0 to 0", x, x.link(2, 0, 0), -4);
        refused("from 1 to 1", x, x.link(2, 1, 1), -4);
        x.cut(0);
        taken("from 0 to 1, once it was cut", x, x.link(0, 0, 1), 2);
        refused("from 1 to 0 again", x, x.link(0, 1, 0), -4);
    }

    private static void ruleNumbers() {
        terms("I", "RULES 0 .. 11");
        CauseBook x = new CauseBook();
        for (int i = 0; i < 12; i++) {
            taken("rules may be alike", x, x.rule(0, 0, 0, 1, 0), i);
        }
        refused("the thirteenth", x, x.rule(0, 0, 0, 1, 0), -5);
        refused("drop(12)", x, x.drop(12), -2);
        taken("drop(11)", x, x.drop(11), 11);
        taken("there is room again", x, x.rule(4, 31, 2, 31, 9), 11);
        due("the last", x.ofRule(11, 1), 31);
        refused("sort 5", x, x.rule(5, 0, 0, 1, 0), -1);
        refused("sort -1", x, x.rule(-1, 0, 0, 1, 0), -1);
        x = new CauseBook();
        taken("a, b 0", x, x.rule(0, 0, 0, 0, 0), 0);
        taken("a, b 31", x, x.rule(4, 31, 2, 31, 9), 1);
        refused("a 32", x, x.rule(4, 32, 2, 31, 9), -1);
        refused("b 32", x, x.rule(4, 31, 2, 32, 9), -1);
        refused("a -1", x, x.rule(4, -1, 2, 31, 9), -1);
        refused("b -1", x, x.rule(4, 31, 2, -1, 9), -1);
    }

    private static void delays() {
        terms("I", "a DELAY 0 .. 9");
        CauseBook x = objects(0);
        x.cause(0, 0, 1);
        taken("delay 0", x, x.rule(0, 0, 0, 1, 0), 0);
        taken("delay 9", x, x.rule(0, 0, 0, 2, 9), 1);
        refused("delay 10", x, x.rule(0, 0, 0, 3, 10), -1);
        refused("delay -1", x, x.rule(0, 0, 0, 3, -1), -1);
        due("0 later", x.time(1, 0, 1), 0);
        due("9 later", x.time(1, 0, 2), 9);
        due("not at all", x.time(1, 0, 3), -2);
    }

    private static void same() {
        terms("I", "SAME: has an OBJECT of KIND a the FACT e, it has f DELAY later (r, b are not asked)");
        CauseBook x = objects(0, 0, 1);
        x.cause(0, 0, 1);
        x.cause(1, 0, 1);
        x.rule(0, 0, 2, 8 * 3 + 1, 4);
        due("itself, though KIND b is another and there is no LINK", x.time(1, 0, 1), 4);
        due("no other one", x.time(1, 1, 1), -2);
        due("not of another KIND", x.time(4, 2, 1), -2);
        x.link(2, 0, 2);
        due("no one to which a LINK leads", x.time(1, 2, 1), -2);
        refused("RELATION 3 can't be all the same", x, x.rule(0, 0, 3, 1, 4), -1);
    }

    private static void along() {
        terms("I", "ALONG: each OBJECT of KIND b to which a LINK of r leads from it");
        CauseBook x = objects(0, 1, 1, 2, 1, 1, 1);
        x.cause(0, 0, 1);
        x.cause(1, 0, 1);
        x.link(1, 0, 1);
        x.link(1, 0, 2);
        x.link(1, 0, 3);
        x.link(2, 0, 4);
        x.link(1, 5, 0);
        x.link(1, 1, 6);
        x.rule(1, 0, 1, 8 + 1, 4);
        due("the first", x.time(1, 1, 1), 4);
        due("each", x.time(1, 2, 1), 4);
        due("of another KIND", x.time(1, 3, 1), -2);
        due("by another RELATION", x.time(1, 4, 1), -2);
        due("from which it leads", x.time(1, 5, 1), -2);
        due("of one that is not of KIND a", x.time(2, 6, 1), -2);
        due("itself", x.time(1, 0, 1), -2);
    }

    private static void against() {
        terms("I", "AGAINST: each OBJECT of KIND b from which a LINK of r leads to it");
        CauseBook x = objects(0, 1, 1, 2, 1, 1, 1);
        x.cause(0, 0, 1);
        x.cause(1, 0, 1);
        x.link(1, 1, 0);
        x.link(1, 2, 0);
        x.link(1, 3, 0);
        x.link(2, 4, 0);
        x.link(1, 0, 5);
        x.link(1, 6, 1);
        x.rule(2, 0, 1, 8 + 1, 4);
        due("the first", x.time(1, 1, 1), 4);
        due("each", x.time(1, 2, 1), 4);
        due("of another KIND", x.time(1, 3, 1), -2);
        due("by another RELATION", x.time(1, 4, 1), -2);
        due("to which it leads", x.time(1, 5, 1), -2);
        due("of one that is not of KIND a", x.time(2, 6, 1), -2);
    }

    /**
     * OBJECTS 0, 1, 2 of KIND 0 have EVENT 3 at 0 by CAUSES 1, 4, 16, at 4 by CAUSES 2, 8, 32 (as bits);
     * of it OBJECT 3 of KIND 1 has EVENT 1 by ALL, 2 later, EVENT 2 by TWO, 3 later. No LINKS.
     */
    private static CauseBook several() {
        CauseBook x = objects(0, 0, 0, 1);
        x.cause(0, 3, 1);
        x.cause(0, 5, 1);
        x.rule(0, 5, 0, 3, 4);
        x.rule(3, 3, 1, 8 + 1, 2);
        x.rule(4, 3, 1, 8 + 2, 3);
        return x;
    }

    private static void all() {
        terms("I", "ALL: DELAY later than the last of these (one at least) has e, if all have it");
        CauseBook x = several();
        due("none leads there", x.time(21, 3, 1), -2);
        x.link(1, 0, 3);
        due("one leads there and has it", x.time(1, 3, 1), 2);
        due("and has it later", x.time(2, 3, 1), 6);
        due("one leads there, others have it", x.time(20, 3, 1), -2);
        x.link(1, 1, 3);
        due("one of two", x.time(1, 3, 1), -2);
        due("the other of two", x.time(4, 3, 1), -2);
        due("two of two", x.time(5, 3, 1), 2);
        due("the last of two", x.time(9, 3, 1), 6);
        due("the last of two, told the other way", x.time(6, 3, 1), 6);
        due("the last of two, while another one has it", x.time(25, 3, 1), 6);
        x.link(1, 2, 3);
        due("two of three", x.time(5, 3, 1), -2);
        due("three of three", x.time(21, 3, 1), 2);
        due("the last of three", x.time(37, 3, 1), 6);
        x.object(0);
        x.link(0, 4, 3);
        due("one more, by another RELATION", x.time(21, 3, 1), 2);
        x.object(2);
        x.link(1, 5, 3);
        due("one more, of another KIND", x.time(21, 3, 1), 2);
        x.link(1, 3, 4);
        due("one to which it leads itself", x.time(21, 3, 1), 2);
        x.link(1, 4, 3);
        due("one more, which has it not", x.time(21, 3, 1), -2);
        x.object(2);
        x.link(1, 0, 6);
        due("one of another KIND than b", x.time(1, 6, 1), -2);
    }

    private static void two() {
        terms("I", "TWO: likewise, if two at least have it, DELAY later than the second has");
        CauseBook x = several();
        due("none leads there", x.time(21, 3, 2), -2);
        x.link(1, 0, 3);
        due("one leads there and has it", x.time(1, 3, 2), -2);
        due("one leads there, others have it", x.time(21, 3, 2), -2);
        x.link(1, 1, 3);
        due("one of two", x.time(1, 3, 2), -2);
        due("two of two", x.time(5, 3, 2), 3);
        due("the second of two", x.time(9, 3, 2), 7);
        due("the second of two, told the other way", x.time(6, 3, 2), 7);
        due("the second of two, while another one has it at once", x.time(25, 3, 2), 7);
        due("not one of KIND a itself", x.time(21, 0, 2), -2);
        x.link(1, 2, 3);
        due("one of three", x.time(16, 3, 2), -2);
        due("two of three", x.time(20, 3, 2), 3);
        due("the second of three", x.time(37, 3, 2), 3);
        due("the second of three, told the other way", x.time(22, 3, 2), 3);
        due("the second of three is late", x.time(41, 3, 2), 7);
        x.object(2);
        x.cause(2, 3, 1);
        x.link(1, 4, 3);
        due("one, and one of another KIND", x.time(65, 3, 2), -2);
        x.link(1, 0, 4);
        x.link(1, 1, 4);
        due("one of another KIND than b", x.time(5, 4, 2), -2);
        x.object(0);
        x.link(0, 5, 3);
        due("one, and one by another RELATION", x.time(129, 3, 2), -2);
    }

    private static void spreads() {
        terms("I", "SPREAD of some FACTS: they are at TIME 0; each at the earliest TIME at which any RULE brings it");
        CauseBook x = objects(0, 0);
        x.cause(0, 0, 1);
        x.link(0, 0, 1);
        x.link(0, 1, 0);
        due("of no FACTS", x.spread(0, 0), 0);
        due("of one FACT, no RULES", x.spread(1, 0), 1);
        x.rule(1, 0, 0, 0, 3);
        due("a round ends", x.spread(1, 0), 2);
        due("a FACT told stays at 0", x.time(1, 0, 0), 0);
        due("the other comes", x.time(1, 1, 0), 3);
        due("told, it is at 0", x.time(3, 1, 0), 0);
        x.rule(0, 0, 0, 1, 9);
        due("one way", x.time(1, 0, 1), 9);
        x.rule(0, 0, 0, 2, 4);
        x.rule(0, 2, 0, 1, 4);
        due("an earlier way of two steps", x.time(1, 0, 1), 8);
        x.rule(0, 2, 0, 3, 0);
        x.rule(0, 3, 0, 2, 0);
        due("a round without delay ends", x.time(1, 0, 3), 4);
        due("of both FACTS", x.spread(3, 0), 8);
        x = objects(0);
        x.cause(0, 1, 1);
        x.rule(0, 1, 0, 0, 5);
        due("the latest is the first FACT of all", x.spread(1, 1), 5);
    }

    private static void whatGoesBringsNothing() {
        terms("I", "a LINK leads from it; not one that was cut");
        CauseBook x = objects(0, 1);
        x.cause(0, 0, 1);
        x.link(1, 0, 1);
        x.rule(1, 0, 1, 9, 4);
        due("ALONG", x.time(1, 1, 1), 4);
        x.cut(0);
        due("ALONG, cut", x.time(1, 1, 1), -2);
        x = objects(0, 1);
        x.cause(0, 0, 1);
        x.link(1, 1, 0);
        x.rule(2, 0, 1, 9, 4);
        due("AGAINST", x.time(1, 1, 1), 4);
        x.cut(0);
        due("AGAINST, cut", x.time(1, 1, 1), -2);
        x = several();
        x.link(1, 0, 3);
        x.link(1, 1, 3);
        due("ALL: one of two", x.time(1, 3, 1), -2);
        due("TWO: two of two", x.time(5, 3, 2), 3);
        x.cut(1);
        due("ALL, cut: one of one", x.time(1, 3, 1), 2);
        due("TWO, cut: one of one", x.time(5, 3, 2), -2);
        terms("I", "OBJECTS, each of a KIND");
        x = objects(0, 0);
        x.cause(0, 0, 1);
        x.cause(1, 0, 1);
        x.rule(0, 0, 0, 1, 2);
        due("of KIND 0", x.time(2, 1, 1), 2);
        x.undo();
        x.undo();
        x.undo();
        x.undo();
        x.object(1);
        x.cause(0, 0, 1);
        x.cause(1, 0, 1);
        x.rule(0, 0, 0, 1, 2);
        due("of KIND 1 in its place", x.time(2, 1, 1), -2);
        due("of KIND 0 yet", x.time(1, 0, 1), 2);
    }

    /** Each FACT comes 9 later than the one ahead, forty of them, in a ring of ten OBJECTS. */
    private static void longSpread() {
        terms("I", "all FACTS that come of them by RULES, again and again");
        CauseBook x = objects(0, 0, 0, 0, 0, 0, 0, 0, 0, 1);
        for (int o = 0; o < 10; o++) {
            x.link(2, o, (o + 1) % 10);
        }
        for (int e = 3; e >= 0; e--) {
            x.rule(1, 8 + e, 2, e + 1, 9);
            x.rule(1, e, 2, 8 + e, 9);
            x.rule(1, e, 2, e, 9);
        }
        x.cause(0, 0, 1);
        x.sign(1, 3);
        due("rules", x.count(2), 12);
        due("the last of the first round", x.time(1, 9, 0), 81);
        due("the first of the second", x.time(1, 0, 1), 90);
        due("the last of the fourth", x.time(1, 9, 3), 351);
        due("one more", x.time(1, 0, 4), 360);
        due("not again", x.time(1, 1, 4), -2);
        due("facts", x.spread(1, 0), 41);
        due("latest", x.spread(1, 1), 360);
        due("objects", x.spread(1, 2), 10);
        due("rules that bring", x.spread(1, 3), 4095);
        due("the time of the sign", x.ofCause(0, 4), 351);
        due("begun at the ninth", x.time(256, 9, 3), 279);
        x.note(0, 999);
        due("begun at 648", x.explains(0, 648), 1);
        due("best, slack 1", x.best(0, 0), 647);
    }

    private static void causesAndSigns() {
        terms("I", "with a WEIGHT 1 .. 9");
        CauseBook x = objects(0);
        taken("weight 1", x, x.cause(0, 0, 1), 0);
        taken("weight 9", x, x.cause(0, 0, 9), 1);
        refused("weight 10", x, x.cause(0, 0, 10), -1);
        refused("weight -1", x, x.cause(0, 0, -1), -1);
        due("weight", x.ofCause(0, 2), 9);
        taken("weight 0: none any more", x, x.cause(0, 0, 0), 9);
        due("none", x.count(3), 0);
        terms("I", "CAUSES, SIGNS are numbered each, by OBJECTS, then by EVENTS");
        x = objects(1, 0, 1);
        x.cause(1, 7, 1);
        x.cause(0, 3, 2);
        x.cause(1, 2, 3);
        x.sign(0, 6);
        x.sign(1, 5);
        x.sign(0, 4);
        int[][] causes = {{0, 2, 3}, {0, 7, 1}, {1, 3, 2}, {2, 2, 3}, {2, 7, 1}};
        for (int c = 0; c < causes.length; c++) {
            for (int what = 0; what < 3; what++) {
                due("cause " + c + ", " + what, x.ofCause(c, what), causes[c][what]);
            }
        }
        int[][] signs = {{0, 5}, {1, 4}, {1, 6}, {2, 5}};
        for (int s = 0; s < signs.length; s++) {
            for (int what = 0; what < 2; what++) {
                due("sign " + s + ", " + what, x.ofSign(s, what), signs[s][what]);
            }
        }
        terms("I", "CODE of a CAUSE, or of several: the SIGNS that are in the SPREAD of them");
        x = objects(0);
        x.cause(0, 3, 1);
        x.sign(0, 3);
        due("a CAUSE may be its own SIGN", x.code(1), 1);
        due("of no CAUSES", x.code(0), 0);
        due("of two, what none brings alone", gate().code(3), 1);
    }

    private static void twelveOfEither() {
        terms("I", "12 of either at most");
        CauseBook x = crowd();
        due("twelve causes", x.count(3), 12);
        due("twelve signs", x.count(4), 12);
        refused("six more causes", x, x.cause(0, 2, 1), -5);
        refused("six more signs", x, x.sign(0, 0), -5);
        refused("an object with two of either", x, x.object(0), -5);
        taken("an object with none", x, x.object(1), 6);
        refused("one more cause", x, x.cause(1, 0, 1), -5);
        refused("one more sign", x, x.sign(1, 0), -5);
        taken("another weight", x, x.cause(0, 0, 1), 9);
        taken("a cause of a KIND without OBJECTS", x, x.cause(2, 0, 1), 0);
        taken("a sign of a KIND without OBJECTS", x, x.sign(3, 0), 12);
        refused("an object with one cause more", x, x.object(2), -5);
        refused("an object with one sign more", x, x.object(3), -5);
        taken("six less causes", x, x.cause(0, 1, 0), 9);
        taken("an object with one cause more", x, x.object(2), 7);
        refused("an object with one sign more", x, x.object(3), -5);
        taken("six less signs", x, x.sign(0, 3), 6);
        taken("an object with one sign more", x, x.object(3), 8);
        due("seven causes", x.count(3), 7);
        due("seven signs", x.count(4), 7);
        x = objects(0, 0, 0, 0, 0, 1);
        x.cause(0, 0, 1);
        x.cause(0, 1, 1);
        x.cause(1, 0, 1);
        x.sign(0, 0);
        x.sign(0, 1);
        x.sign(1, 0);
        due("eleven", x.count(3), 11);
        refused("two more causes and two more signs", x, x.object(0), -5);
        taken("one more of either", x, x.object(1), 6);
        due("twelve causes", x.count(3), 12);
        due("twelve signs", x.count(4), 12);
        refused("one more of either", x, x.object(1), -5);
        x.undo();
        refused("five more causes", x, x.cause(0, 2, 1), -5);
        taken("one more cause", x, x.cause(1, 2, 1), 0);
        refused("five more signs", x, x.sign(0, 2), -5);
        taken("one more sign", x, x.sign(1, 2), 12);
        x = objects(1, 0, 0, 0, 0, 0, 0);
        x.cause(0, 0, 1);
        x.cause(0, 1, 1);
        x.sign(0, 2);
        taken("twelve signs", x, x.sign(0, 3), 12);
        refused("one more cause, at the first OBJECT", x, x.cause(1, 0, 1), -5);
        refused("one more sign, at the first OBJECT", x, x.sign(1, 0), -5);
    }

    private static void termRanges() {
        int[] most = {16, 16, 9, 5};
        int[] first = {2, 1, 1, 1};
        String[] names = {"LOST 0 .. 16 (2 at first)", "FALSE 0 .. 16 (1)", "NOTHING 0 .. 9 (1)", "SLACK 0 .. 5 (1)"};
        for (int what = 0; what < 4; what++) {
            terms("I", names[what]);
            CauseBook x = new CauseBook();
            due("at first", x.count(13 + what), first[what]);
            refused("too great", x, x.terms(what, most[what] + 1), -1);
            taken("the greatest", x, x.terms(what, most[what]), first[what]);
            refused("too small", x, x.terms(what, -1), -1);
            taken("the least", x, x.terms(what, 0), most[what]);
            taken("the same again", x, x.terms(what, 0), 0);
            for (int other = 0; other < 4; other++) {
                due("term " + other, x.count(13 + other), other == what ? 0 : first[other]);
            }
        }
    }

    /** The BOOK is 5, SEEN 3, the LOG has one entry; OBJECTS of KIND 1 have SIGNS, those of KIND 0 CAUSES. */
    private static CauseBook readStar() {
        CauseBook x = star();
        x.book(5);
        x.see(3);
        x.note(1, 9);
        return x;
    }

    private static void signsBecomeOthers() {
        terms("I", "Whenever SIGNS become others: the BOOK has all of them, SEEN is empty, the LOG is empty");
        CauseBook x = readStar();
        taken("an OBJECT of which there are SIGNS", x, x.object(1), 6);
        reads("an OBJECT of which there are SIGNS", x, 15, 0, 0);
        x = readStar();
        taken("sign()", x, x.sign(0, 1), 6);
        reads("sign()", x, 63, 0, 0);
        x = readStar();
        taken("a sign taken back", x, x.sign(1, 1), 0);
        reads("a sign taken back", x, 0, 0, 0);
        x = readStar();
        x.sign(0, 1);
        x.book(1);
        x.see(32);
        x.note(5, 0);
        taken("one of two taken back", x, x.sign(1, 1), 3);
        reads("one of two taken back", x, 7, 0, 0);
        taken("the LOG begins anew", x, x.note(0, 999), 1);
        x = readStar();
        taken("sign() of a KIND without OBJECTS", x, x.sign(3, 3), 3);
        reads("sign() of a KIND without OBJECTS", x, 7, 0, 0);
        x = readStar();
        x.object(1);
        due("undone", x.undo(), 0);
        reads("undone, all is as it was", x, 5, 3, 1);
        due("what is SEEN", x.ofSign(1, 3), 1);
        due("when it was noted", x.cuts(1, 0, 0), 9);
    }

    private static void signsStayAsTheyAre() {
        terms("I", "Whenever SIGNS become others; not if they stay as they are");
        CauseBook x = readStar();
        x.object(0);
        reads("an OBJECT with CAUSES alone", x, 5, 3, 1);
        x.object(3);
        reads("an OBJECT with neither", x, 5, 3, 1);
        x.cause(0, 1, 1);
        x.cause(1, 1, 1);
        reads("cause()", x, 5, 3, 1);
        x.link(1, 0, 1);
        x.cut(0);
        reads("link(), cut()", x, 5, 3, 1);
        x.rule(0, 0, 0, 1, 0);
        x.drop(0);
        reads("rule(), drop()", x, 5, 3, 1);
        x.terms(0, 0);
        x.image(0);
        reads("terms(), image()", x, 5, 3, 1);
        refused("a sign that can't be", x, x.sign(4, 0), -1);
        reads("a sign that can't be", x, 5, 3, 1);
        x = wide();
        x.book(5);
        x.see(3);
        x.note(1, 9);
        refused("signs for which there is no room", x, x.sign(0, 0), -5);
        reads("signs for which there is no room", x, 5, 3, 1);
        refused("an object for which there is no room", x, x.object(0), -5);
        reads("an object for which there is no room", x, 5, 3, 1);
    }

    private static void distances() {
        terms("II", "DISTANCE: how many SIGNS of the BOOK are in just one of them. APART: how many SIGNS at all");
        CauseBook x = coded(4, 11, 6);
        // in just one of them: 0, 2, 3
        due("the whole BOOK", x.distance(0, 1, 0), 3);
        x.book(10);
        due("3 is in just one, 1 in both", x.distance(0, 1, 0), 1);
        due("at all", x.distance(0, 1, 1), 3);
        x.book(2);
        due("none of the BOOK", x.distance(0, 1, 0), 0);
        due("at all", x.distance(0, 1, 1), 3);
        x.book(0);
        due("an empty BOOK", x.distance(0, NONE, 0), 0);
        due("from the empty set at all", x.distance(0, NONE, 1), 3);
    }

    private static void reduction(String what, CauseBook x, int d, int book) {
        due(what + ": reduced(" + d + ")", x.reduced(d), Integer.bitCount(book));
        taken(what + ": reduce(" + d + ")", x, x.reduce(d), Integer.bitCount(book));
        due(what + ": the book by " + d, x.count(5), book);
    }

    private static void reductions() {
        terms("II", "TO REDUCE to d (1 .. 6)");
        CauseBook x = star();
        taken("d 1", x, x.reduce(1), 2);
        taken("d 6", x, x.reduce(6), 3);
        refused("d 0", x, x.reduce(0), -1);
        refused("d 7", x, x.reduce(7), -1);
        terms("II", "the fewest SIGNS so that the DISTANCE is d or more, or as much as they are APART");
        reduction("no CAUSES, no SIGNS", new CauseBook(), 1, 0);
        x = coded(3);
        reduction("no CAUSES", x, 1, 0);
        reduction("no SIGNS", coded(0, 0, 0), 6, 0);
        reduction("an empty CODE", coded(2, 0), 6, 0);
        reduction("from the empty set by 1", coded(3, 7), 1, 1);
        reduction("by 2", coded(3, 7), 2, 3);
        reduction("by 3", coded(3, 7), 3, 7);
        reduction("by 4: APART by 3 alone", coded(3, 7), 4, 7);
        reduction("like CODES are APART by none", coded(3, 6, 6), 1, 2);
        reduction("one within the other", coded(3, 3, 1), 1, 3);
        reduction("three of one SIGN each", coded(3, 1, 2, 4), 1, 7);
        reduction("what two have is needed by neither", coded(3, 5, 6), 1, 3);
        reduction("one and an empty CODE", coded(3, 6, 0), 1, 2);
        terms("II", "of like many those that are least as bits");
        // by 1: 0 and 1 do, or 0 and 2, or 1 and 2
        reduction("three pairs would do", coded(3, 3, 6, 5), 1, 3);
        reduction("the first SIGN can't", coded(4, 14, 14), 2, 6);
        terms("II", "of all SIGNS, whatever the BOOK has");
        x = coded(3, 7);
        x.book(0);
        reduction("an empty BOOK", x, 1, 1);
        x.book(4);
        reduction("another BOOK", x, 2, 3);
    }

    private static void reductionsOfTwelve() {
        terms("II", "TO REDUCE to d (1 .. 6), twelve SIGNS");
        for (int d = 1; d <= 6; d++) {
            int half = (1 << d) - 1;
            reduction("two CODES of six", wide(), d, half | half << 6);
        }
        CauseBook x = wide();
        x.sign(0, 6);
        x.rule(0, 7, 0, 1, 0);
        x.cause(0, 7, 1);
        // CODES of five, of one, of five, of one: 31, 1, 992, 32; APART by 4 and by 6
        reduction("a CODE of one", x, 1, 1 | 2 | 32 | 64);
        reduction("by 3", x, 3, 15 | 15 << 5);
        reduction("by 4", x, 4, 31 | 31 << 5);
    }

    /** Twelve CAUSES of which any two CODES are two SIGNS APART at least: all 78 pairs count. */
    private static void reductionsOfTwelveCauses() {
        terms("II", "of any two CAUSES, and of any CAUSE and the empty set; twelve CAUSES");
        int[][] links = {{2, 5, 6}, {0, 2, 7}, {0, 1, 2}, {0, 0, 7}, {2, 1, 7}, {1, 5, 8}, {1, 3, 5}, {0, 3, 8},
            {0, 4, 7}, {1, 0, 6}, {1, 2, 8}, {2, 2, 7}, {2, 4, 8}, {1, 2, 6}, {1, 2, 7}, {1, 3, 7}, {0, 2, 6}};
        int[][] rules = {{1, 1, 0, 9, 3}, {1, 1, 1, 10, 0}, {2, 1, 0, 1, 7}, {1, 0, 2, 10, 2}, {1, 0, 2, 9, 5},
            {1, 0, 0, 10, 9}, {2, 1, 0, 1, 0}, {1, 1, 2, 8, 1}, {1, 0, 1, 11, 3}, {1, 0, 0, 11, 6}, {1, 1, 2, 10, 2},
            {2, 1, 2, 1, 5}};
        CauseBook x = objects(0, 0, 0, 0, 0, 0, 1, 1, 1);
        for (int[] l : links) {
            x.link(l[0], l[1], l[2]);
        }
        for (int[] r : rules) {
            x.rule(r[0], r[1], r[2], r[3], r[4]);
        }
        x.cause(0, 0, 1);
        x.cause(0, 1, 1);
        for (int e = 0; e < 4; e++) {
            x.sign(1, e);
        }
        int[] codes = new int[12];
        for (int c = 0; c < 12; c++) {
            codes[c] = x.code(1 << c);
        }
        for (int d = 6; d >= 1; d--) {
            reduction("twelve CAUSES", x, d, plainly(codes, d));
        }
    }

    /** The fewest of twelve SIGNS, by looking at all sets of them. */
    private static int plainly(int[] codes, int d) {
        int best = 4095;
        for (int book = 4095; book >= 0; book--) {
            boolean good = true;
            for (int one : codes) {
                good &= farEnough(one, 0, book, d);
                for (int other : codes) {
                    good &= farEnough(one, other, book, d);
                }
            }
            if (good && Integer.bitCount(book) <= Integer.bitCount(best)) {
                best = book;
            }
        }
        return best;
    }

    private static boolean farEnough(int one, int other, int book, int d) {
        return Integer.bitCount((one ^ other) & book) >= Math.min(d, Integer.bitCount(one ^ other));
    }

    private static void reductionsAfterOthers() {
        terms("II", "TO REDUCE, when there were more CAUSES ahead");
        CauseBook x = wide();
        due("two CAUSES", x.reduced(5), 10);
        x.cause(0, 0, 0);
        reduction("no CAUSES any more", x, 1, 0);
        x.cause(0, 0, 1);
        x.drop(5);
        x.drop(4);
        x.drop(3);
        x.drop(2);
        reduction("CODES of two", x, 5, 3 | 3 << 6);
        reduction("CODES of two", x, 1, 1 | 1 << 6);
    }

    private static void nearestAndJoint() {
        terms("II", "NEAREST: the CAUSES whose CODES have the least DISTANCE from SEEN");
        CauseBook x = coded(4, 3, 12, 7);
        x.see(3);
        due("one at 0", x.nearest(3), 1);
        x.see(5);
        due("one at 1", x.nearest(3), 4);
        x.see(9);
        // at 2, 2, 3
        due("two at 2", x.nearest(3), 3);
        x.book(0);
        due("all, with an empty BOOK", x.nearest(3), 7);
        terms("II", "JOINT by n (1 .. 3): of all sets of one to n CAUSES; of like ones the fewest, then the least as bits");
        x = coded(4, 1, 2, 4, 8);
        x.see(15);
        due("by 1: at 3", x.joint(1, 1), 3);
        due("by 1: the least", x.joint(1, 0), 1);
        due("by 1: four", x.joint(1, 2), 4);
        due("by 2: at 2", x.joint(2, 1), 2);
        due("by 2: the least", x.joint(2, 0), 3);
        due("by 2: six", x.joint(2, 2), 6);
        due("by 3: at 1", x.joint(3, 1), 1);
        due("by 3: the least", x.joint(3, 0), 7);
        due("by 3: four", x.joint(3, 2), 4);
        none("by 0", x.joint(0, 0));
        none("by 4", x.joint(4, 0));
        x.see(0);
        due("never the empty set", x.joint(3, 0), 1);
        due("at 1", x.joint(3, 1), 1);
        x.see(8);
        due("fewest ahead of least", x.joint(3, 0), 8);
        x = coded(3, 5, 6, 3, 7);
        x.see(7);
        due("one that does as well as two", x.joint(2, 0), 8);
        due("one, three with it, three without: seven of them", x.joint(2, 2), 7);
        x = coded(2, 3);
        x.see(3);
        due("fewer CAUSES than n", x.joint(3, 0) * 10 + x.joint(3, 2), 11);
    }

    private static void likely() {
        terms("II", "in the CODE and SEEN, 16 less LOST; in the CODE alone: LOST; SEEN alone: FALSE; neither: 16 less FALSE");
        // by 4 of weight 1 beside NOTHING: the CODE has 0, 1; SEEN are 0, 2
        CauseBook x = coded(4, 3);
        x.terms(0, 3);
        x.terms(1, 5);
        x.see(5);
        // the CAUSE 13 * 3 * 5 * 11, NOTHING 5 * 11 * 5 * 11: 39 by 55
        due("of the CAUSE, upper", x.odds(0, 0), 39);
        due("of the CAUSE, lower", x.odds(0, 1), 94);
        due("of NOTHING, upper", x.odds(NONE, 0), 55);
        x.book(1);
        // 13 and 5
        due("in the CODE and SEEN", x.odds(0, 0) * 100 + x.odds(0, 1), 1318);
        x.book(2);
        // 3 and 11
        due("in the CODE alone", x.odds(0, 0) * 100 + x.odds(0, 1), 314);
        x.book(4);
        due("SEEN alone", x.odds(0, 0) * 100 + x.odds(0, 1), 102);
        x.terms(1, 0);
        due("SEEN alone, FALSE 0", x.odds(0, 0) * 100 + x.odds(0, 1), 1);
        x.terms(1, 16);
        due("SEEN alone, FALSE 16", x.odds(0, 0) * 100 + x.odds(0, 1), 102);
        x.book(8);
        due("neither, FALSE 16", x.odds(0, 0) * 100 + x.odds(0, 1), 1);
        x.terms(1, 0);
        due("neither, FALSE 0", x.odds(0, 0) * 100 + x.odds(0, 1), 102);
        x.terms(1, 5);
        x.book(1);
        x.terms(0, 16);
        due("in the CODE and SEEN, LOST 16", x.odds(0, 0) * 100 + x.odds(0, 1), 1);
        x.terms(0, 0);
        due("in the CODE and SEEN, LOST 0", x.odds(0, 0) * 100 + x.odds(0, 1), 1621);
        x.book(2);
        due("in the CODE alone, LOST 0", x.odds(0, 0) * 100 + x.odds(0, 1), 1);
        x.terms(0, 16);
        due("in the CODE alone, LOST 16", x.odds(0, 0) * 100 + x.odds(0, 1), 1627);
        x.book(0);
        due("an empty BOOK", x.odds(0, 0) * 100 + x.odds(0, 1), 102);
    }

    private static void oddsInLowestTerms() {
        terms("II", "in lowest terms (0 by 1, if all that is 0)");
        CauseBook x = coded(1, 1, 0);
        x.cause(0, 0, 3);
        x.terms(2, 0);
        x.book(0);
        due("3 by 6", x.odds(0, 0) * 10 + x.odds(0, 1), 12);
        x.terms(2, 9);
        due("3 by 15", x.odds(0, 0) * 10 + x.odds(0, 1), 15);
        due("9 by 15", x.odds(NONE, 0) * 10 + x.odds(NONE, 1), 35);
        x.terms(2, 0);
        due("0 by 6", x.odds(NONE, 0) * 10 + x.odds(NONE, 1), 1);
        x.book(1);
        x.see(1);
        x.terms(0, 16);
        x.terms(1, 0);
        x.terms(2, 9);
        for (int cause = NONE; cause < 2; cause++) {
            due("all is 0, upper", x.odds(cause, 0), 0);
            due("all is 0, lower", x.odds(cause, 1), 1);
        }
        x.terms(1, 1);
        due("not all is 0", x.odds(1, 0) * 10 + x.odds(1, 1), 14);
        x = new CauseBook();
        due("NOTHING alone", x.odds(NONE, 0) * 10 + x.odds(NONE, 1), 11);
        x.terms(2, 0);
        due("not even NOTHING", x.odds(NONE, 0) * 10 + x.odds(NONE, 1), 1);
    }

    private static void groups() {
        terms("II", "GROUPS: CAUSES with like CODES, as far as the BOOK has SIGNS; told by the least of them");
        CauseBook x = coded(3, 5, 1, 5, 3);
        due("three", x.groups(0), 3);
        due("the least", x.group(2), 0);
        x.book(4);
        due("two", x.groups(0), 2);
        due("3 with 1", x.group(3), 1);
        x.book(0);
        due("one", x.groups(0), 1);
        due("3 with 0", x.group(3), 0);
        terms("II", "MARGIN: the least DISTANCE of two CAUSES of unlike GROUPS; CORRECTED: MARGIN less 1, by 2, downwards");
        int[] corrected = {0, 0, 1, 1, 2, 2};
        for (int margin = 1; margin <= 6; margin++) {
            x = coded(6, 0, (1 << margin) - 1, 0);
            due("margin", x.groups(1), margin);
            due("corrected of " + margin, x.groups(2), corrected[margin - 1]);
        }
        x = wide();
        due("margin of twelve", x.groups(1), 12);
        due("corrected of twelve", x.groups(2), 5);
        x = coded(4, 1, 15, 12, 12);
        due("the least of 3, 3, 2", x.groups(1), 2);
    }

    private static void rankedAndHold() {
        terms("II", "RANKED: by falling WEIGHT times LIKELY, of like ones by rising numbers");
        CauseBook x = coded(1, 0, 1, 0, 1);
        // by LOST 2, FALSE 1: 15 for an empty CODE, 2 for the other
        due("ranked", x.ranked(0) * 1000 + x.ranked(1) * 100 + x.ranked(2) * 10 + x.ranked(3), 213);
        x.see(1);
        // 1 for an empty CODE, 14 for the other
        due("ranked", x.ranked(0) * 1000 + x.ranked(1) * 100 + x.ranked(2) * 10 + x.ranked(3), 1302);
        x.book(0);
        due("all alike", x.ranked(0) * 1000 + x.ranked(1) * 100 + x.ranked(2) * 10 + x.ranked(3), 123);
        terms("II", "HOLD: the fewest SIGNS of the BOOK, of like many the least as bits");
        x = coded(5, 31, 0);
        x.see(31);
        due("three of five", x.hold(1), 7);
        x.book(30);
        due("of four a tie is enough", x.hold(1), 6);
        x.book(16);
        due("the BOOK's only one", x.hold(1), 16);
        x.book(0);
        none("an empty BOOK: both are NEAREST", x.hold(1));
        x = coded(3, 3, 6);
        x.see(3);
        due("one makes a tie", x.hold(1), 1);
        x.see(2);
        none("both are NEAREST", x.hold(1));
        none("one CAUSE", coded(2, 3).hold(0));
        none("no CAUSES", coded(2).hold(0));
    }

    private static void minimals() {
        terms("II", "MINIMAL sets of a SIGN: sets of one to three CAUSES, no smaller set of some of these");
        for (int many = 1; many <= 4; many++) {
            CauseBook x = objects(0, 0, 0, 0, 1);
            x.cause(0, 0, 1);
            x.sign(1, 1);
            x.rule(3, 0, 0, 9, 0);
            for (int o = 0; o < many; o++) {
                x.link(0, o, 4);
            }
            due("all of " + many, x.minimal(0, NONE), many <= 3 ? 1 : 0);
            due("all of " + many, x.minimal(0, 0), many <= 3 ? (1 << many) - 1 : NONE);
        }
        CauseBook x = gate();
        due("sets of two, none of three", x.minimal(0, NONE), 3);
        x.rule(1, 0, 1, 9, 0);
        due("sets of one, none of two", x.minimal(0, NONE), 3);
        due("the last", x.minimal(0, 2), 4);
        none("one more", x.minimal(0, 3));
    }

    private static void asking() {
        terms("II", "TO ASK: the SIGN of the BOOK; the greater part is the least; the first");
        CauseBook x = coded(3, 1, 1, 3, 7);
        x.book(7);
        x.see(3);
        // at 1, 1, 0, 1
        none("one is NEAREST", x.ask(0));
        x.see(7);
        none("one is NEAREST", x.ask(0));
        // four CAUSES, each at 2 from SEEN 6: CODES 0, 3, 5, 15 would be at 2, 2, 2, 2
        x = coded(4, 0, 3, 5, 15);
        x.see(6);
        due("four are NEAREST", x.nearest(1), 4);
        // sign 0: three have it; 1: two; 2: two; 3: one
        due("the first of the best", x.ask(0), 1);
        due("two of four", x.ask(1), 2);
        x.book(0);
        none("an empty BOOK", x.ask(0));
        x = coded(2, 1, 1);
        due("parted by none: the first all the same", x.ask(0), 0);
        due("two of two", x.ask(1), 2);
        x.book(2);
        due("the first of the BOOK", x.ask(0), 1);
    }

    private static void windows() {
        terms("III", "WINDOW of w (1 .. 999) from t on: at TIMES t or more, but below t and w");
        CauseBook x = star();
        x.note(0, 10);
        x.note(1, 13);
        taken("from 10 on", x, x.window(10, 1), 1);
        taken("from 11 on", x, x.window(11, 1), 0);
        taken("below 13", x, x.window(11, 2), 0);
        taken("below 14", x, x.window(11, 3), 1);
        taken("both", x, x.window(10, 4), 2);
        taken("one less", x, x.window(10, 3), 1);
        x.note(2, 999);
        taken("999 alone", x, x.window(999, 1), 1);
        due("seen", x.count(6), 4);
        taken("beyond 999", x, x.window(999, 999), 1);
        taken("all but 999", x, x.window(0, 999), 2);
        taken("all but 999", x, x.window(10, 989), 2);
        taken("all", x, x.window(10, 990), 3);
        terms("III", "CUTS: each next one with the earliest that is in none ahead");
        x = star();
        x.note(0, 20);
        x.note(1, 14);
        x.note(2, 10);
        due("w 4: 14 begins the next, 20 one more", x.cuts(4, NONE, 0), 3);
        due("the first begins with the earliest", x.cuts(4, 0, 0), 10);
        due("the next", x.cuts(4, 1, 0), 14);
        due("w 5: 14 is within", x.cuts(5, NONE, 0), 2);
        due("the next", x.cuts(5, 1, 0), 20);
        due("w 10: 20 begins the next", x.cuts(10, NONE, 0), 2);
        due("w 11: one", x.cuts(11, NONE, 0), 1);
        due("all of them", x.cuts(11, 0, 1), 7);
    }

    private static void explaining() {
        terms("III", "its TIME is not farther than SLACK from START and the TIME of that SIGN");
        for (int slack = 0; slack <= 5; slack++) {
            CauseBook x = coded(2, 1);
            x.terms(3, slack);
            x.note(0, 50);
            due("as late as may be", x.explains(0, 48 + slack), 1);
            due("too late", x.explains(0, 49 + slack), 0);
            due("as early as may be", x.explains(0, 48 - slack), 1);
            due("too early", x.explains(0, 47 - slack), 0);
            due("the earliest", x.best(0, 0), 48 - slack);
            x.note(1, 50);
            due("a SIGN that is not in the CODE", x.explains(0, 48), 1);
            none("that can't be explained", x.cover());
        }
        terms("III", "COVER: the fewest CAUSES, one may begin more than once, 3 at most");
        CauseBook x = coded(2, 1, 2);
        for (int many = 0; many <= 4; many++) {
            due("of one CAUSE, begun again", x.cover(), many <= 3 ? many : NONE);
            x.note(0, 100 * many + 100);
        }
        x = coded(4, 1, 2, 4, 8);
        for (int many = 0; many <= 4; many++) {
            due("of unlike CAUSES", x.cover(), many <= 3 ? many : NONE);
            x.note(Math.min(many, 3), 100);
        }
        x = coded(4, 1, 2, 4, 8);
        x.note(0, 2);
        due("begun at 0", x.cover(), 1);
        x.note(0, 3);
        due("SLACK is enough", x.cover(), 1);
        x.note(0, 1);
        due("and on the other side", x.cover(), 1);
        x.note(0, 4);
        due("one more later", x.cover(), 2);
        x.note(0, 0);
        none("one more would have to begin ahead of 0", x.cover());
        x = coded(1, 1);
        x.terms(3, 0);
        x.note(0, 2);
        due("at 0, no SLACK", x.cover(), 1);
        x.note(0, 999);
        due("the last TIME", x.cover(), 2);
        terms("III", "that EXPLAIN all entries between them");
        x = coded(3, 1, 2, 5);
        for (int s = 0; s < 3; s++) {
            x.note(s, 10);
        }
        due("a greater one told later", x.cover(), 2);
        x = coded(2, 2, 1);
        x.note(0, 10);
        x.note(1, 10);
        due("the first entry by the second CAUSE", x.cover(), 2);
        x = coded(4, 3, 5, 9);
        for (int s = 0; s < 4; s++) {
            x.note(s, 10);
        }
        due("three that all have the first", x.cover(), 3);
        x = coded(2, 1);
        x.note(0, 100);
        x.note(0, 300);
        x.note(0, 500);
        due("three STARTS", x.cover(), 3);
        x.clear();
        x.note(0, 100);
        x.note(1, 100);
        none("what was covered ahead does not help", x.cover());
        x = coded(4, 1, 2, 12);
        x.note(2, 10);
        x.note(3, 10);
        x.note(0, 10);
        x.note(1, 10);
        due("three CAUSES", x.cover(), 3);
        x.clear();
        x.note(0, 10);
        x.note(3, 0);
        x.note(1, 10);
        none("one entry ahead of any START", x.cover());
        x = coded(1, 1);
        x.terms(3, 0);
        x.note(0, 997);
        x.note(0, 999);
        due("begun at 997", x.explains(0, 997), 1);
    }
}
