import java.util.Arrays;

/** Root causes found by the codes of their symptoms; DOC.md says what each method promises. */
public final class CauseBook {
    public static final int NONE = -1;

    private static final int KINDS = 4;
    private static final int EVENTS = 8;
    private static final int MARKS = KINDS * EVENTS;
    private static final int RELATIONS = 3;
    private static final int OBJECTS = 10;
    private static final int LINKS = 20;
    private static final int RULES = 12;
    /** As many CAUSES, and as many SIGNS, as there may be. */
    private static final int MOST = 12;
    private static final int ENTRIES = 20;
    private static final int KEPT = 10;
    private static final int IMAGES = 2;
    private static final int TIMES = 1000;
    private static final int MOST_REDUCED = 6;
    private static final int MOST_WEIGHT = 9;
    private static final int MOST_DELAY = 9;
    /** Sets of one to three of twelve CAUSES: 12 and 66 and 220. */
    private static final int SETS = 298;
    /** Pairs of twelve CAUSES, and each CAUSE with the empty set. */
    private static final int PAIRS = 78;
    /** Later than any TIME and farther than any DISTANCE that can be. */
    private static final int NEVER = 1000000;
    private static final int DOES_NOT_COME = -2;

    private static final int BAD_NUMBER = -1;
    private static final int NO_SUCH = -2;
    private static final int CANNOT_BE = -4;
    private static final int NO_ROOM = -5;

    private static final int ACT_OBJECT = 0;
    private static final int ACT_LINK = 1;
    private static final int ACT_CUT = 2;
    private static final int ACT_RULE = 3;
    private static final int ACT_DROP = 4;
    private static final int ACT_CAUSE = 5;
    private static final int ACT_SIGN = 6;
    private static final int ACT_REDUCE = 7;
    private static final int ACT_BOOK = 8;
    private static final int ACT_SEE = 9;
    private static final int ACT_NOTE = 10;
    private static final int ACT_CLEAR = 11;
    private static final int ACT_WINDOW = 12;

    private static final int LINK_PARTS = 3;
    private static final int LINK_RELATION = 0;
    private static final int LINK_FROM = 1;
    private static final int LINK_TO = 2;

    private static final int RULE_PARTS = 5;
    private static final int RULE_SORT = 0;
    private static final int RULE_A = 1;
    private static final int RULE_RELATION = 2;
    private static final int RULE_B = 3;
    private static final int RULE_DELAY = 4;

    private static final int SORTS = 5;
    private static final int SAME = 0;
    private static final int ALONG = 1;
    private static final int AGAINST = 2;
    private static final int ALL = 3;

    private static final int TERMS = 4;
    private static final int LOST = 0;
    private static final int FALSE = 1;
    private static final int NOTHING = 2;
    private static final int SLACK = 3;
    private static final int WHOLE = 16;
    private static final int[] TERMS_AT_FIRST = {2, 1, 1, 1};
    private static final int[] MOST_OF_TERMS = {16, 16, 9, 5};

    private final Model model = new Model();
    private final History history = new History();
    private final Model[] images = new Model[IMAGES];
    private final boolean[] imageKept = new boolean[IMAGES];
    private final Refusals refusals = new Refusals();
    private final int[] termValues = new int[TERMS];
    private final Roll causeRoll = new Roll();
    private final Roll signRoll = new Roll();
    private final Spreader spreader = new Spreader(model, causeRoll);
    private final Codes codes = new Codes(model, spreader, causeRoll, signRoll);
    private final Decoder decoder = new Decoder(model, codes);
    private final Chances chances = new Chances(model, codes, termValues);
    private final Reducer reducer = new Reducer(codes);
    private final Chronicle chronicle = new Chronicle(model, codes, termValues);

    public CauseBook() {
        for (int k = 0; k < IMAGES; k++) {
            images[k] = new Model();
        }
        System.arraycopy(TERMS_AT_FIRST, 0, termValues, 0, TERMS);
    }

    // ---- acts

    public int terms(int what, int value) {
        if (outside(what, TERMS) || value < 0 || value > MOST_OF_TERMS[what]) {
            return refusals.refuse(BAD_NUMBER);
        }
        refusals.accept();
        int was = termValues[what];
        termValues[what] = value;
        return was;
    }

    public int object(int kind) {
        if (outside(kind, KINDS)) {
            return refusals.refuse(BAD_NUMBER);
        }
        int newCauses = model.marksOf(kind, model.weights);
        int newSigns = model.marksOf(kind, model.signMarks);
        if (model.objects >= OBJECTS || causeRoll.size + newCauses > MOST || signRoll.size + newSigns > MOST) {
            return refusals.refuse(NO_ROOM);
        }
        begin(ACT_OBJECT);
        model.addObject(kind);
        settle();
        if (newSigns > 0) {
            startBookAnew();
        }
        return model.objects - 1;
    }

    public int link(int relation, int from, int to) {
        if (outside(relation, RELATIONS)) {
            return refusals.refuse(BAD_NUMBER);
        }
        if (outside(from, model.objects) || outside(to, model.objects)) {
            return refusals.refuse(NO_SUCH);
        }
        if (from == to || model.hasLink(relation, from, to)) {
            return refusals.refuse(CANNOT_BE);
        }
        if (model.links >= LINKS) {
            return refusals.refuse(NO_ROOM);
        }
        begin(ACT_LINK);
        model.addLink(relation, from, to);
        codes.forget();
        return model.links - 1;
    }

    public int cut(int link) {
        if (outside(link, model.links)) {
            return refusals.refuse(NO_SUCH);
        }
        begin(ACT_CUT);
        model.removeLink(link);
        codes.forget();
        return model.links;
    }

    public int rule(int sort, int a, int relation, int b, int delay) {
        if (outside(sort, SORTS) || outside(a, MARKS) || outside(relation, RELATIONS) || outside(b, MARKS)
                || delay < 0 || delay > MOST_DELAY) {
            return refusals.refuse(BAD_NUMBER);
        }
        if (model.rules >= RULES) {
            return refusals.refuse(NO_ROOM);
        }
        begin(ACT_RULE);
        model.addRule(sort, a, relation, b, delay);
        codes.forget();
        return model.rules - 1;
    }

    public int drop(int rule) {
        if (outside(rule, model.rules)) {
            return refusals.refuse(NO_SUCH);
        }
        begin(ACT_DROP);
        model.removeRule(rule);
        codes.forget();
        return model.rules;
    }

    public int cause(int kind, int event, int weight) {
        if (outside(kind, KINDS) || outside(event, EVENTS) || weight < 0 || weight > MOST_WEIGHT) {
            return refusals.refuse(BAD_NUMBER);
        }
        int mark = kind * EVENTS + event;
        int was = model.weights[mark];
        if (was == weight) {
            return refusals.refuse(CANNOT_BE);
        }
        if (was == 0 && causeRoll.size + model.objectsOf(kind) > MOST) {
            return refusals.refuse(NO_ROOM);
        }
        begin(ACT_CAUSE);
        model.weights[mark] = weight;
        settle();
        return was;
    }

    public int sign(int kind, int event) {
        if (outside(kind, KINDS) || outside(event, EVENTS)) {
            return refusals.refuse(BAD_NUMBER);
        }
        int mark = kind * EVENTS + event;
        boolean was = model.signMarks[mark] != 0;
        if (!was && signRoll.size + model.objectsOf(kind) > MOST) {
            return refusals.refuse(NO_ROOM);
        }
        begin(ACT_SIGN);
        model.signMarks[mark] = was ? 0 : 1;
        settle();
        startBookAnew();
        return signRoll.size;
    }

    public int reduce(int d) {
        if (d < 1 || d > MOST_REDUCED) {
            return refusals.refuse(BAD_NUMBER);
        }
        begin(ACT_REDUCE);
        codes.renew();
        model.book = reducer.fewestSigns(d);
        return Integer.bitCount(model.book);
    }

    public int book(int signs) {
        if (outside(signs, 1 << signRoll.size)) {
            return refusals.refuse(BAD_NUMBER);
        }
        begin(ACT_BOOK);
        model.book = signs;
        return Integer.bitCount(signs);
    }

    public int see(int signs) {
        if (outside(signs, 1 << signRoll.size)) {
            return refusals.refuse(BAD_NUMBER);
        }
        begin(ACT_SEE);
        int others = model.seen ^ signs;
        model.seen = signs;
        return Integer.bitCount(others);
    }

    public int note(int sign, int time) {
        if (outside(time, TIMES)) {
            return refusals.refuse(BAD_NUMBER);
        }
        if (outside(sign, signRoll.size)) {
            return refusals.refuse(NO_SUCH);
        }
        if (model.entries >= ENTRIES) {
            return refusals.refuse(NO_ROOM);
        }
        begin(ACT_NOTE);
        model.addEntry(sign, time);
        return model.entries;
    }

    /** No call of clear() can be REFUSED, and status() does not tell of it: so that stays as it is. */
    public int clear() {
        history.keep(model, ACT_CLEAR);
        int were = model.entries;
        model.entries = 0;
        return were;
    }

    public int window(int t, int w) {
        if (outside(t, TIMES) || !isWidth(w)) {
            return refusals.refuse(BAD_NUMBER);
        }
        begin(ACT_WINDOW);
        model.seen = chronicle.signsWithin(t, w);
        return Integer.bitCount(model.seen);
    }

    public int undo() {
        if (history.size == 0) {
            return refusals.refuse(CANNOT_BE);
        }
        refusals.accept();
        int act = history.takeBack(model);
        settle();
        return act;
    }

    public int image(int k) {
        if (outside(k, IMAGES)) {
            return refusals.refuse(BAD_NUMBER);
        }
        refusals.accept();
        images[k].copyFrom(model);
        imageKept[k] = true;
        return model.objects;
    }

    public int back(int k) {
        if (outside(k, IMAGES)) {
            return refusals.refuse(BAD_NUMBER);
        }
        if (!imageKept[k]) {
            return refusals.refuse(CANNOT_BE);
        }
        refusals.accept();
        model.copyFrom(images[k]);
        history.size = 0;
        settle();
        return model.objects;
    }

    // ---- what comes of causes

    public int time(int causes, int object, int event) {
        if (noSuchCauses(causes) || outside(object, model.objects) || outside(event, EVENTS)) {
            return NONE;
        }
        spreader.readLinks(NONE);
        spreader.flow(causes);
        int at = spreader.timeOf(object, event);
        return at == NEVER ? DOES_NOT_COME : at;
    }

    public int spread(int causes, int what) {
        if (noSuchCauses(causes) || outside(what, 4)) {
            return NONE;
        }
        spreader.readLinks(NONE);
        spreader.flow(causes);
        switch (what) {
            case 0:
                return spreader.factCount();
            case 1:
                return spreader.latest();
            case 2:
                return Integer.bitCount(spreader.touched());
            default:
                return spreader.bringers();
        }
    }

    public int code(int causes) {
        if (noSuchCauses(causes)) {
            return NONE;
        }
        spreader.readLinks(NONE);
        spreader.flow(causes);
        return codes.codeOfFlow();
    }

    public int distance(int cause, int other, int what) {
        boolean known = !noSuchCause(cause) && (other == NONE || !noSuchCause(other));
        if (!known || outside(what, 2)) {
            return NONE;
        }
        codes.renew();
        int otherCode = other == NONE ? 0 : codes.ofCauses[other];
        int apart = codes.ofCauses[cause] ^ otherCode;
        return Integer.bitCount(what == 0 ? apart & model.book : apart);
    }

    // ---- what is seen, decoded

    public int nearest(int what) {
        if (causeRoll.size == 0 || outside(what, 5)) {
            return NONE;
        }
        codes.renew();
        int which = decoder.nearestTo(model.seen);
        switch (what) {
            case 0:
                return decoder.least;
            case 1:
                return Integer.bitCount(which);
            case 2:
                return firstOf(which);
            case 3:
                return which;
            default:
                return decoder.leastBeside(which);
        }
    }

    public int joint(int n, int what) {
        if (causeRoll.size == 0 || n < 1 || n > 3 || outside(what, 3)) {
            return NONE;
        }
        codes.renew();
        codes.renewSets();
        int which = decoder.jointBy(n);
        switch (what) {
            case 0:
                return which;
            case 1:
                return decoder.least;
            default:
                return decoder.alike;
        }
    }

    public long odds(int cause, int what) {
        if ((cause != NONE && noSuchCause(cause)) || outside(what, 2)) {
            return NONE;
        }
        codes.renew();
        chances.weigh();
        long share = cause == NONE ? chances.ofNothing : chances.shares[cause];
        if (chances.total == 0) {
            return what;
        }
        long divisor = Chances.greatestDivisor(chances.total, share);
        return divisor == 0 ? NONE : (what == 0 ? share : chances.total) / divisor;
    }

    public int likeliest(int what) {
        if (causeRoll.size == 0 || outside(what, 3)) {
            return NONE;
        }
        codes.renew();
        chances.weigh();
        int first = chances.atRank(0);
        if (what == 0 || noSuchCause(first)) {
            return first;
        }
        long greatest = chances.shares[first];
        return what == 1 ? chances.howMany(greatest) : (chances.ofNothing > greatest ? 1 : 0);
    }

    public int ranked(int i) {
        if (outside(i, causeRoll.size)) {
            return NONE;
        }
        codes.renew();
        chances.weigh();
        return chances.atRank(i);
    }

    public int hold(int what) {
        if (outside(what, 2)) {
            return NONE;
        }
        codes.renew();
        int turned = decoder.fewestThatTurn();
        if (turned == 0) {
            return NONE;
        }
        return what == 0 ? Integer.bitCount(turned) : turned;
    }

    public int minimal(int sign, int i) {
        if (outside(sign, signRoll.size) || i < NONE) {
            return NONE;
        }
        codes.renew();
        codes.renewSets();
        int found = codes.findMinimal(sign);
        if (i == NONE) {
            return found;
        }
        return outside(i, found) ? NONE : codes.minimals[i];
    }

    public int weakest(int what) {
        if (model.links == 0 || outside(what, 2)) {
            return NONE;
        }
        codes.renew();
        codes.findWeakest();
        return what == 0 ? codes.weakestLink : codes.weakestChanges;
    }

    public int ordered(int cause, int i) {
        if (noSuchCause(cause)) {
            return NONE;
        }
        codes.renew();
        return codes.signAtRank(cause, i);
    }

    public int sure(int cause) {
        if (noSuchCause(cause)) {
            return NONE;
        }
        codes.renew();
        int at = decoder.sureFrom(cause);
        return at == NEVER ? DOES_NOT_COME : at;
    }

    public int busiest(int w, int what) {
        if (!isWidth(w) || outside(what, 2)) {
            return NONE;
        }
        int t = chronicle.busiestFrom(w);
        return what == 0 ? t : Integer.bitCount(chronicle.signsWithin(t, w));
    }

    // ---- groups, the book, what to ask

    public int groups(int what) {
        if (outside(what, 5)) {
            return NONE;
        }
        codes.renew();
        int margin = decoder.margin();
        switch (what) {
            case 0:
                return decoder.groupCount();
            case 1:
                return margin == NEVER ? NONE : margin;
            case 2:
                return margin == NEVER ? NONE : (margin - 1) / 2;
            case 3:
                return decoder.causesLike(0);
            default:
                return codes.signsInNone();
        }
    }

    public int group(int cause) {
        if (noSuchCause(cause)) {
            return NONE;
        }
        codes.renew();
        return decoder.leastOfGroup(cause);
    }

    public int reduced(int d) {
        if (d < 1 || d > MOST_REDUCED) {
            return NONE;
        }
        codes.renew();
        return Integer.bitCount(reducer.fewestSigns(d));
    }

    public int ask(int what) {
        if (outside(what, 2)) {
            return NONE;
        }
        codes.renew();
        int sign = decoder.bestQuestion();
        return what == 0 || sign == NONE ? sign : decoder.least;
    }

    // ---- the log

    public int cuts(int w, int i, int what) {
        if (!isWidth(w) || i < NONE) {
            return NONE;
        }
        int many = chronicle.cutCount(w);
        if (i == NONE) {
            return many;
        }
        if (i >= many || outside(what, 3)) {
            return NONE;
        }
        int begins = chronicle.cutBegin(w, i);
        if (what == 0) {
            return begins;
        }
        int signs = chronicle.signsWithin(begins, w);
        if (what == 1) {
            return signs;
        }
        codes.renew();
        return firstOf(decoder.nearestTo(signs));
    }

    public int explains(int cause, int start) {
        if (noSuchCause(cause) || outside(start, TIMES)) {
            return NONE;
        }
        codes.renew();
        return Integer.bitCount(chronicle.explained(cause, start));
    }

    public int best(int cause, int what) {
        if (noSuchCause(cause) || outside(what, 2)) {
            return NONE;
        }
        codes.renew();
        int start = chronicle.bestStart(cause);
        return what == 0 ? start : Integer.bitCount(chronicle.explained(cause, start));
    }

    public int cover() {
        codes.renew();
        return chronicle.fewestThatExplainAll();
    }

    // ---- what stands

    public int ofCause(int cause, int what) {
        if (noSuchCause(cause) || outside(what, 5)) {
            return NONE;
        }
        codes.renew();
        switch (what) {
            case 0:
                return causeRoll.objects[cause];
            case 1:
                return causeRoll.events[cause];
            case 2:
                return causeRoll.marks[cause];
            case 3:
                return Integer.bitCount(codes.ofCauses[cause]);
            default:
                return codes.lastSignTime(cause);
        }
    }

    public int ofSign(int sign, int what) {
        if (outside(sign, signRoll.size) || outside(what, 5)) {
            return NONE;
        }
        switch (what) {
            case 0:
                return signRoll.objects[sign];
            case 1:
                return signRoll.events[sign];
            case 2:
                return model.book >> sign & 1;
            case 3:
                return model.seen >> sign & 1;
            default:
                codes.renew();
                return codes.causesWith(sign);
        }
    }

    public int ofObject(int object, int what) {
        if (outside(object, model.objects) || outside(what, 1 + 2 * RELATIONS)) {
            return NONE;
        }
        if (what == 0) {
            return model.kinds[object];
        }
        boolean outward = what <= RELATIONS;
        return model.neighbours(object, outward ? what - 1 : what - 1 - RELATIONS, outward);
    }

    public int ofRule(int rule, int what) {
        if (outside(rule, model.rules) || outside(what, RULE_PARTS)) {
            return NONE;
        }
        return model.rulePart(rule, what);
    }

    public int count(int what) {
        if (what >= 9 && what <= 12) {
            return refusals.counts[what - 9];
        }
        if (what >= 13 && what <= 16) {
            return termValues[what - 13];
        }
        switch (what) {
            case 0:
                return model.objects;
            case 1:
                return model.links;
            case 2:
                return model.rules;
            case 3:
                return causeRoll.size;
            case 4:
                return signRoll.size;
            case 5:
                return model.book;
            case 6:
                return model.seen;
            case 7:
                return model.entries;
            case 8:
                return history.size;
            default:
                return NONE;
        }
    }

    public int status() {
        return refusals.latest;
    }

    // ---- helpers

    private static boolean outside(int value, int size) {
        return value < 0 || value >= size;
    }

    private static boolean has(int bits, int i) {
        return (bits >> i & 1) != 0;
    }

    /** The least number in a set of CAUSES, or NONE. */
    private static int firstOf(int bits) {
        for (int i = 0; i < MOST; i++) {
            if (has(bits, i)) {
                return i;
            }
        }
        return NONE;
    }

    private static boolean isWidth(int w) {
        return w >= 1 && w < TIMES;
    }

    private boolean noSuchCause(int cause) {
        return outside(cause, causeRoll.size);
    }

    private boolean noSuchCauses(int causes) {
        return outside(causes, 1 << causeRoll.size);
    }

    private void begin(int act) {
        refusals.accept();
        history.keep(model, act);
    }

    /** CAUSES and SIGNS may have other numbers now, and other CODES. */
    private void settle() {
        causeRoll.call(model, model.weights);
        signRoll.call(model, model.signMarks);
        codes.forget();
    }

    private void startBookAnew() {
        model.book = (1 << signRoll.size) - 1;
        model.seen = 0;
        model.entries = 0;
    }

    /** All that undo() and back() bring back; what was is kept in further objects of this class. */
    private static final class Model {
        private int objects;
        private int links;
        private int rules;
        private int entries;
        private int book;
        private int seen;
        private final int[] kinds = new int[OBJECTS];
        private final int[] linkParts = new int[LINKS * LINK_PARTS];
        private final int[] ruleParts = new int[RULES * RULE_PARTS];
        /** By 8 times KIND and EVENT: the WEIGHT of such CAUSES, 0 if there are none. */
        private final int[] weights = new int[MARKS];
        private final int[] signMarks = new int[MARKS];
        private final int[] entrySigns = new int[ENTRIES];
        private final int[] entryTimes = new int[ENTRIES];

        private void copyFrom(Model other) {
            objects = other.objects;
            links = other.links;
            rules = other.rules;
            entries = other.entries;
            book = other.book;
            seen = other.seen;
            System.arraycopy(other.kinds, 0, kinds, 0, OBJECTS);
            System.arraycopy(other.linkParts, 0, linkParts, 0, LINKS * LINK_PARTS);
            System.arraycopy(other.ruleParts, 0, ruleParts, 0, RULES * RULE_PARTS);
            System.arraycopy(other.weights, 0, weights, 0, MARKS);
            System.arraycopy(other.signMarks, 0, signMarks, 0, MARKS);
            System.arraycopy(other.entrySigns, 0, entrySigns, 0, ENTRIES);
            System.arraycopy(other.entryTimes, 0, entryTimes, 0, ENTRIES);
        }

        private void addObject(int kind) {
            kinds[objects] = kind;
            objects++;
        }

        private int objectsOf(int kind) {
            int many = 0;
            for (int o = 0; o < objects; o++) {
                many += kinds[o] == kind ? 1 : 0;
            }
            return many;
        }

        private int marksOf(int kind, int[] marks) {
            int many = 0;
            for (int event = 0; event < EVENTS; event++) {
                many += marks[kind * EVENTS + event] != 0 ? 1 : 0;
            }
            return many;
        }

        private int linkPart(int link, int part) {
            return linkParts[link * LINK_PARTS + part];
        }

        private boolean hasLink(int relation, int from, int to) {
            for (int l = 0; l < links; l++) {
                if (linkPart(l, LINK_RELATION) == relation && linkPart(l, LINK_FROM) == from
                        && linkPart(l, LINK_TO) == to) {
                    return true;
                }
            }
            return false;
        }

        private void addLink(int relation, int from, int to) {
            int at = links * LINK_PARTS;
            linkParts[at + LINK_RELATION] = relation;
            linkParts[at + LINK_FROM] = from;
            linkParts[at + LINK_TO] = to;
            links++;
        }

        private void removeLink(int link) {
            links--;
            System.arraycopy(linkParts, (link + 1) * LINK_PARTS, linkParts, link * LINK_PARTS,
                    (links - link) * LINK_PARTS);
        }

        private int neighbours(int object, int relation, boolean outward) {
            int here = outward ? LINK_FROM : LINK_TO;
            int there = outward ? LINK_TO : LINK_FROM;
            int bits = 0;
            for (int l = 0; l < links; l++) {
                if (linkPart(l, LINK_RELATION) == relation && linkPart(l, here) == object) {
                    bits |= 1 << linkPart(l, there);
                }
            }
            return bits;
        }

        private int rulePart(int rule, int part) {
            return ruleParts[rule * RULE_PARTS + part];
        }

        private int ruleKind(int rule, int part) {
            return ruleParts[rule * RULE_PARTS + part] / EVENTS;
        }

        private int ruleEvent(int rule, int part) {
            return ruleParts[rule * RULE_PARTS + part] % EVENTS;
        }

        private void addRule(int sort, int a, int relation, int b, int delay) {
            int at = rules * RULE_PARTS;
            ruleParts[at + RULE_SORT] = sort;
            ruleParts[at + RULE_A] = a;
            ruleParts[at + RULE_RELATION] = relation;
            ruleParts[at + RULE_B] = b;
            ruleParts[at + RULE_DELAY] = delay;
            rules++;
        }

        private void removeRule(int rule) {
            rules--;
            System.arraycopy(ruleParts, (rule + 1) * RULE_PARTS, ruleParts, rule * RULE_PARTS,
                    (rules - rule) * RULE_PARTS);
        }

        /** Only ALL and TWO bring of several CAUSES together what none of them brings alone. */
        private boolean hasRuleOfSeveral() {
            for (int r = 0; r < rules; r++) {
                if (rulePart(r, RULE_SORT) >= ALL) {
                    return true;
                }
            }
            return false;
        }

        private void addEntry(int sign, int time) {
            entrySigns[entries] = sign;
            entryTimes[entries] = time;
            entries++;
        }
    }

    /** The latest acts with what stood ahead of each, in a ring. */
    private static final class History {
        private final Model[] models = new Model[KEPT];
        private final int[] acts = new int[KEPT];
        private int size;
        private int next;

        private History() {
            for (int i = 0; i < KEPT; i++) {
                models[i] = new Model();
            }
        }

        private void keep(Model model, int act) {
            models[next].copyFrom(model);
            acts[next] = act;
            next = (next + 1) % KEPT;
            size = Math.min(size + 1, KEPT);
        }

        /** Only while size is not 0. */
        private int takeBack(Model model) {
            next = (next + KEPT - 1) % KEPT;
            size--;
            model.copyFrom(models[next]);
            return acts[next];
        }
    }

    /** What is told of REFUSED calls. */
    private static final class Refusals {
        private final int[] counts = new int[4];
        private int latest;

        private int refuse(int reason) {
            latest = reason;
            counts[place(reason)]++;
            return reason;
        }

        private void accept() {
            latest = 0;
        }

        private static int place(int reason) {
            switch (reason) {
                case BAD_NUMBER:
                    return 0;
                case NO_SUCH:
                    return 1;
                case CANNOT_BE:
                    return 2;
                default:
                    return 3;
            }
        }
    }

    /** CAUSES, or SIGNS, in the order of their numbers. */
    private static final class Roll {
        private int size;
        private final int[] objects = new int[MOST];
        private final int[] events = new int[MOST];
        private final int[] marks = new int[MOST];

        private void call(Model model, int[] markOfFacts) {
            size = 0;
            for (int o = 0; o < model.objects; o++) {
                for (int event = 0; event < EVENTS; event++) {
                    int mark = markOfFacts[model.kinds[o] * EVENTS + event];
                    if (mark != 0 && size < MOST) {
                        objects[size] = o;
                        events[size] = event;
                        marks[size] = mark;
                        size++;
                    }
                }
            }
        }
    }

    /** The SPREAD of a set of CAUSES. */
    private static final class Spreader {
        /** Each round but the last brings a FACT its own TIME at least, and there are 80 FACTS. */
        private static final int ROUNDS = 1000;

        private final Model model;
        private final Roll causes;
        private final int[] times = new int[OBJECTS * EVENTS];
        /** OBJECTS that have an EVENT, as bits. */
        private final int[] holders = new int[EVENTS];
        /** By RELATION and OBJECT: OBJECTS to which LINKS lead, from which LINKS lead, as bits. */
        private final int[] outward = new int[RELATIONS * OBJECTS];
        private final int[] inward = new int[RELATIONS * OBJECTS];
        private final int[] ofKind = new int[KINDS];
        private int changedEvents;
        private boolean metTime;

        private Spreader(Model model, Roll causes) {
            this.model = model;
            this.causes = causes;
        }

        /** All LINKS but one; without NONE. */
        private void readLinks(int without) {
            Arrays.fill(outward, 0);
            Arrays.fill(inward, 0);
            Arrays.fill(ofKind, 0);
            for (int l = 0; l < model.links; l++) {
                if (l != without) {
                    int row = model.linkPart(l, LINK_RELATION) * OBJECTS;
                    int from = model.linkPart(l, LINK_FROM);
                    int to = model.linkPart(l, LINK_TO);
                    outward[row + from] |= 1 << to;
                    inward[row + to] |= 1 << from;
                }
            }
            for (int o = 0; o < model.objects; o++) {
                ofKind[model.kinds[o]] |= 1 << o;
            }
        }

        private void flow(int set) {
            Arrays.fill(times, NEVER);
            Arrays.fill(holders, 0);
            changedEvents = 0;
            for (int c = 0; c < causes.size; c++) {
                if (has(set, c)) {
                    bring(causes.objects[c], causes.events[c], 0);
                }
            }
            for (int round = 0; round < ROUNDS && changedEvents != 0; round++) {
                int events = changedEvents;
                changedEvents = 0;
                for (int r = 0; r < model.rules; r++) {
                    if (has(events, model.ruleEvent(r, RULE_A))) {
                        apply(r);
                    }
                }
            }
        }

        private void bring(int object, int event, int at) {
            int fact = object * EVENTS + event;
            if (at < times[fact]) {
                times[fact] = at;
                holders[event] |= 1 << object;
                changedEvents |= 1 << event;
            } else if (at == times[fact]) {
                metTime = true;
            }
        }

        private void apply(int rule) {
            switch (model.rulePart(rule, RULE_SORT)) {
                case SAME:
                    applySame(rule);
                    break;
                case ALONG:
                    applyOver(rule, outward);
                    break;
                case AGAINST:
                    applyOver(rule, inward);
                    break;
                default:
                    applyOfSeveral(rule);
                    break;
            }
        }

        private void applySame(int rule) {
            int e = model.ruleEvent(rule, RULE_A);
            int f = model.ruleEvent(rule, RULE_B);
            int delay = model.rulePart(rule, RULE_DELAY);
            int sources = holders[e] & ofKind[model.ruleKind(rule, RULE_A)];
            for (int o = 0; o < model.objects; o++) {
                if (has(sources, o)) {
                    bring(o, f, timeOf(o, e) + delay);
                }
            }
        }

        private void applyOver(int rule, int[] ways) {
            int e = model.ruleEvent(rule, RULE_A);
            int f = model.ruleEvent(rule, RULE_B);
            int delay = model.rulePart(rule, RULE_DELAY);
            int row = model.rulePart(rule, RULE_RELATION) * OBJECTS;
            int sources = holders[e] & ofKind[model.ruleKind(rule, RULE_A)];
            int wanted = ofKind[model.ruleKind(rule, RULE_B)];
            for (int o = 0; o < model.objects; o++) {
                int targets = has(sources, o) ? ways[row + o] & wanted : 0;
                for (int p = 0; p < model.objects && targets >> p != 0; p++) {
                    if (has(targets, p)) {
                        bring(p, f, timeOf(o, e) + delay);
                    }
                }
            }
        }

        private void applyOfSeveral(int rule) {
            int e = model.ruleEvent(rule, RULE_A);
            int f = model.ruleEvent(rule, RULE_B);
            int delay = model.rulePart(rule, RULE_DELAY);
            int row = model.rulePart(rule, RULE_RELATION) * OBJECTS;
            int sources = ofKind[model.ruleKind(rule, RULE_A)];
            int wanted = ofKind[model.ruleKind(rule, RULE_B)];
            boolean all = model.rulePart(rule, RULE_SORT) == ALL;
            for (int p = 0; p < model.objects; p++) {
                int leaders = has(wanted, p) ? inward[row + p] & sources : 0;
                int at = all ? lastOf(leaders, e) : secondOf(leaders & holders[e], e);
                if (at != NEVER) {
                    bring(p, f, at + delay);
                }
            }
        }

        private int lastOf(int leaders, int event) {
            if (leaders == 0 || (leaders & ~holders[event]) != 0) {
                return NEVER;
            }
            int last = 0;
            for (int o = 0; o < model.objects; o++) {
                if (has(leaders, o)) {
                    last = Math.max(last, times[o * EVENTS + event]);
                }
            }
            return last;
        }

        private int secondOf(int leaders, int event) {
            if (Integer.bitCount(leaders) < 2) {
                return NEVER;
            }
            int first = NEVER;
            int second = NEVER;
            for (int o = 0; o < model.objects; o++) {
                if (has(leaders, o)) {
                    int at = times[o * EVENTS + event];
                    second = Math.min(second, Math.max(first, at));
                    first = Math.min(first, at);
                }
            }
            return second;
        }

        private int timeOf(int object, int event) {
            return times[object * EVENTS + event];
        }

        private int factCount() {
            int many = 0;
            for (int event = 0; event < EVENTS; event++) {
                many += Integer.bitCount(holders[event]);
            }
            return many;
        }

        private int latest() {
            int last = 0;
            for (int fact = 0; fact < model.objects * EVENTS; fact++) {
                if (times[fact] != NEVER) {
                    last = Math.max(last, times[fact]);
                }
            }
            return last;
        }

        /** OBJECTS that have any FACT, as bits. */
        private int touched() {
            int bits = 0;
            for (int event = 0; event < EVENTS; event++) {
                bits |= holders[event];
            }
            return bits;
        }

        /** RULES that bring a FACT at its TIME, as bits: applied once more, no RULE can change a TIME. */
        private int bringers() {
            int bits = 0;
            for (int r = 0; r < model.rules; r++) {
                metTime = false;
                apply(r);
                if (metTime) {
                    bits |= 1 << r;
                }
            }
            return bits;
        }
    }

    /** CODES of CAUSES and of small sets of them, found anew only after what they come of has changed. */
    private static final class Codes {
        private final Model model;
        private final Spreader spreader;
        private final Roll causes;
        private final Roll signs;
        private final int[] ofCauses = new int[MOST];
        /** By CAUSE and SIGN. */
        private final int[] signTimes = new int[MOST * MOST];
        /** Sets of one to three CAUSES, those with fewest first, of like many by rising bits. */
        private final int[] sets = new int[SETS];
        private final int[] ofSets = new int[SETS];
        private final int[] minimals = new int[SETS];
        private int setCount;
        private int weakestLink;
        private int weakestChanges;
        private boolean known;
        private boolean setsKnown;
        private boolean weakestKnown;

        private Codes(Model model, Spreader spreader, Roll causes, Roll signs) {
            this.model = model;
            this.spreader = spreader;
            this.causes = causes;
            this.signs = signs;
        }

        private void forget() {
            known = false;
            setsKnown = false;
            weakestKnown = false;
        }

        private int codeOfFlow() {
            int bits = 0;
            for (int s = 0; s < signs.size; s++) {
                if (spreader.timeOf(signs.objects[s], signs.events[s]) != NEVER) {
                    bits |= 1 << s;
                }
            }
            return bits;
        }

        private void renew() {
            if (known) {
                return;
            }
            spreader.readLinks(NONE);
            for (int c = 0; c < causes.size; c++) {
                spreader.flow(1 << c);
                ofCauses[c] = codeOfFlow();
                for (int s = 0; s < signs.size; s++) {
                    signTimes[c * MOST + s] = spreader.timeOf(signs.objects[s], signs.events[s]);
                }
            }
            known = true;
        }

        /** After renew(). */
        private void renewSets() {
            if (setsKnown) {
                return;
            }
            listSets();
            boolean several = model.hasRuleOfSeveral();
            spreader.readLinks(NONE);
            for (int i = 0; i < setCount; i++) {
                if (several) {
                    spreader.flow(sets[i]);
                    ofSets[i] = codeOfFlow();
                } else {
                    ofSets[i] = unionOfCodes(sets[i]);
                }
            }
            setsKnown = true;
        }

        private int unionOfCodes(int set) {
            int bits = 0;
            for (int c = 0; c < causes.size; c++) {
                if (has(set, c)) {
                    bits |= ofCauses[c];
                }
            }
            return bits;
        }

        private void listSets() {
            setCount = 0;
            for (int high = 0; high < causes.size; high++) {
                addSet(1 << high);
            }
            for (int high = 0; high < causes.size; high++) {
                for (int low = 0; low < high; low++) {
                    addSet(1 << high | 1 << low);
                }
            }
            for (int high = 0; high < causes.size; high++) {
                for (int middle = 0; middle < high; middle++) {
                    for (int low = 0; low < middle; low++) {
                        addSet(1 << high | 1 << middle | 1 << low);
                    }
                }
            }
        }

        private void addSet(int set) {
            if (setCount < SETS) {
                sets[setCount] = set;
                setCount++;
            }
        }

        /** Puts the MINIMAL sets of a SIGN into minimals, in their order: how many. */
        private int findMinimal(int sign) {
            int found = 0;
            for (int i = 0; i < setCount; i++) {
                if (has(ofSets[i], sign) && !holdsMinimal(sets[i], found)) {
                    minimals[found] = sets[i];
                    found++;
                }
            }
            return found;
        }

        private boolean holdsMinimal(int set, int found) {
            for (int i = 0; i < found; i++) {
                if ((minimals[i] & ~set) == 0) {
                    return true;
                }
            }
            return false;
        }

        private void findWeakest() {
            if (weakestKnown) {
                return;
            }
            weakestLink = NONE;
            weakestChanges = NONE;
            for (int l = 0; l < model.links; l++) {
                int changes = changesWithout(l);
                if (changes > weakestChanges) {
                    weakestLink = l;
                    weakestChanges = changes;
                }
            }
            weakestKnown = true;
        }

        private int changesWithout(int link) {
            int changes = 0;
            spreader.readLinks(link);
            for (int c = 0; c < causes.size; c++) {
                spreader.flow(1 << c);
                changes += codeOfFlow() != ofCauses[c] ? 1 : 0;
            }
            return changes;
        }

        private int signTime(int cause, int sign) {
            return signTimes[cause * MOST + sign];
        }

        private int lastSignTime(int cause) {
            int last = NONE;
            for (int s = 0; s < signs.size; s++) {
                if (has(ofCauses[cause], s)) {
                    last = Math.max(last, signTime(cause, s));
                }
            }
            return last;
        }

        /** The SIGN of the CODE with so many of the CODE ahead of it, or NONE. */
        private int signAtRank(int cause, int rank) {
            for (int s = 0; s < signs.size; s++) {
                if (has(ofCauses[cause], s) && signsAhead(cause, s) == rank) {
                    return s;
                }
            }
            return NONE;
        }

        private int signsAhead(int cause, int sign) {
            int at = signTime(cause, sign);
            int many = 0;
            for (int s = 0; s < signs.size; s++) {
                int other = signTime(cause, s);
                many += other < at || (other == at && s < sign) ? 1 : 0;
            }
            return many;
        }

        private int signsBy(int cause, int at) {
            int bits = 0;
            for (int s = 0; s < signs.size; s++) {
                if (signTime(cause, s) <= at) {
                    bits |= 1 << s;
                }
            }
            return bits;
        }

        private int nextSignTime(int cause, int after) {
            int next = NEVER;
            for (int s = 0; s < signs.size; s++) {
                int at = signTime(cause, s);
                if (at > after) {
                    next = Math.min(next, at);
                }
            }
            return next;
        }

        private int causesWith(int sign) {
            int bits = 0;
            for (int c = 0; c < causes.size; c++) {
                if (has(ofCauses[c], sign)) {
                    bits |= 1 << c;
                }
            }
            return bits;
        }

        private int signsInNone() {
            int all = (1 << signs.size) - 1;
            return all & ~unionOfCodes((1 << causes.size) - 1);
        }
    }

    /** What is NEAREST, JOINT, HOLD, GROUPS, TO ASK; codes are renewed by who calls. */
    private static final class Decoder {
        private final Model model;
        private final Codes codes;
        /** The least that the latest search found, and how many sets were as near in jointBy. */
        private int least;
        private int alike;

        private Decoder(Model model, Codes codes) {
            this.model = model;
            this.codes = codes;
        }

        private int gap(int one, int other) {
            return Integer.bitCount((one ^ other) & model.book);
        }

        /** The CAUSES that are NEAREST, were this SEEN, as bits. */
        private int nearestTo(int seen) {
            int bits = 0;
            least = NEVER;
            for (int c = 0; c < codes.causes.size; c++) {
                int far = gap(codes.ofCauses[c], seen);
                if (far < least) {
                    least = far;
                    bits = 0;
                }
                if (far == least) {
                    bits |= 1 << c;
                }
            }
            return bits;
        }

        private int leastBeside(int nearest) {
            int found = NEVER;
            for (int c = 0; c < codes.causes.size; c++) {
                if (!has(nearest, c)) {
                    found = Math.min(found, gap(codes.ofCauses[c], model.seen));
                }
            }
            return found == NEVER ? NONE : found;
        }

        /** The sets come by rising number of CAUSES, then by rising bits: the first of the nearest is due. */
        private int jointBy(int n) {
            int which = NONE;
            least = NEVER;
            alike = 0;
            for (int i = 0; i < codes.setCount && Integer.bitCount(codes.sets[i]) <= n; i++) {
                int far = gap(codes.ofSets[i], model.seen);
                if (far < least) {
                    least = far;
                    which = codes.sets[i];
                    alike = 0;
                }
                if (far == least) {
                    alike++;
                }
            }
            return which;
        }

        /** HOLD, as bits; 0 if there is none. */
        private int fewestThatTurn() {
            int others = ((1 << codes.causes.size) - 1) & ~nearestTo(model.seen);
            if (others == 0) {
                return 0;
            }
            int found = 0;
            int fewest = MOST + 1;
            for (int turned = 1; turned <= model.book; turned++) {
                if ((turned & ~model.book) == 0 && Integer.bitCount(turned) < fewest
                        && (nearestTo(model.seen ^ turned) & others) != 0) {
                    found = turned;
                    fewest = Integer.bitCount(turned);
                }
            }
            return found;
        }

        /** CAUSES whose CODES are like this one as far as the BOOK has SIGNS, as bits. */
        private int causesLike(int code) {
            int bits = 0;
            for (int c = 0; c < codes.causes.size; c++) {
                if (gap(codes.ofCauses[c], code) == 0) {
                    bits |= 1 << c;
                }
            }
            return bits;
        }

        private int leastOfGroup(int cause) {
            return firstOf(causesLike(codes.ofCauses[cause]));
        }

        private int groupCount() {
            int many = 0;
            for (int c = 0; c < codes.causes.size; c++) {
                many += leastOfGroup(c) == c ? 1 : 0;
            }
            return many;
        }

        /** NEVER with fewer than two GROUPS. */
        private int margin() {
            int found = NEVER;
            for (int c = 0; c < codes.causes.size; c++) {
                for (int other = 0; other < c; other++) {
                    int far = gap(codes.ofCauses[c], codes.ofCauses[other]);
                    if (far > 0) {
                        found = Math.min(found, far);
                    }
                }
            }
            return found;
        }

        /** SEEN is another one only at TIME 0 and where a SIGN of the CODE comes. */
        private int sureFrom(int cause) {
            int group = causesLike(codes.ofCauses[cause]);
            int at = 0;
            for (int step = 0; step <= MOST && at != NEVER; step++) {
                if (nearestTo(codes.signsBy(cause, at)) == group) {
                    return at;
                }
                at = codes.nextSignTime(cause, at);
            }
            return NEVER;
        }

        /** The SIGN TO ASK, or NONE; least is its greater part. */
        private int bestQuestion() {
            int nearest = nearestTo(model.seen);
            int many = Integer.bitCount(nearest);
            int found = NONE;
            least = NEVER;
            for (int s = 0; s < codes.signs.size && many >= 2; s++) {
                int having = Integer.bitCount(codes.causesWith(s) & nearest);
                int greater = Math.max(having, many - having);
                if (has(model.book, s) && greater < least) {
                    least = greater;
                    found = s;
                }
            }
            return found;
        }
    }

    /** ODDS: twelve factors of 16 at most, times 9, of twelve CAUSES and NOTHING, are below two to the 55th. */
    private static final class Chances {
        /** Each second step halves the greater number at least. */
        private static final int DIVISOR_STEPS = 200;

        private final Model model;
        private final Codes codes;
        private final int[] terms;
        private final long[] shares = new long[MOST];
        private long ofNothing;
        private long total;

        private Chances(Model model, Codes codes, int[] terms) {
            this.model = model;
            this.codes = codes;
            this.terms = terms;
        }

        private void weigh() {
            ofNothing = terms[NOTHING] * likely(0);
            total = ofNothing;
            for (int c = 0; c < codes.causes.size; c++) {
                shares[c] = codes.causes.marks[c] * likely(codes.ofCauses[c]);
                total += shares[c];
            }
        }

        private long likely(int code) {
            long product = 1;
            for (int s = 0; s < codes.signs.size; s++) {
                if (has(model.book, s)) {
                    product *= factor(has(code, s), has(model.seen, s));
                }
            }
            return product;
        }

        private int factor(boolean inCode, boolean seen) {
            if (inCode) {
                return seen ? WHOLE - terms[LOST] : terms[LOST];
            }
            return seen ? terms[FALSE] : WHOLE - terms[FALSE];
        }

        private static long greatestDivisor(long one, long other) {
            long a = one;
            long b = other;
            for (int step = 0; step < DIVISOR_STEPS && b != 0; step++) {
                long rest = a % b;
                a = b;
                b = rest;
            }
            return a;
        }

        private int howMany(long share) {
            int many = 0;
            for (int c = 0; c < codes.causes.size; c++) {
                many += shares[c] == share ? 1 : 0;
            }
            return many;
        }

        private int atRank(int rank) {
            for (int c = 0; c < codes.causes.size; c++) {
                if (causesAhead(c) == rank) {
                    return c;
                }
            }
            return NONE;
        }

        private int causesAhead(int cause) {
            int many = 0;
            for (int c = 0; c < codes.causes.size; c++) {
                many += shares[c] > shares[cause] || (shares[c] == shares[cause] && c < cause) ? 1 : 0;
            }
            return many;
        }
    }

    /** TO REDUCE; codes are renewed by who calls. */
    private static final class Reducer {
        private final Codes codes;
        /** SIGNS by which two CODES are APART, and how many of them the BOOK needs. */
        private final int[] aparts = new int[PAIRS];
        private final int[] needs = new int[PAIRS];
        private int pairs;
        /** SIGNS that the BOOK needs all the same: of CODES that are APART by no more than is told. */
        private int must;

        private Reducer(Codes codes) {
            this.codes = codes;
        }

        private int fewestSigns(int d) {
            listPairs(d);
            int all = (1 << codes.signs.size) - 1;
            int found = all;
            int fewest = codes.signs.size + 1;
            for (int book = 0; book <= all; book++) {
                if ((must & ~book) == 0 && Integer.bitCount(book) < fewest && keepsApart(book)) {
                    found = book;
                    fewest = Integer.bitCount(book);
                }
            }
            return found;
        }

        private void listPairs(int d) {
            pairs = 0;
            must = 0;
            for (int c = 0; c < codes.causes.size; c++) {
                addPair(codes.ofCauses[c], d);
                for (int other = 0; other < c; other++) {
                    addPair(codes.ofCauses[c] ^ codes.ofCauses[other], d);
                }
            }
        }

        private void addPair(int apart, int d) {
            if (Integer.bitCount(apart) <= d) {
                must |= apart;
            } else if (pairs < PAIRS) {
                aparts[pairs] = apart;
                needs[pairs] = d;
                pairs++;
            }
        }

        private boolean keepsApart(int book) {
            for (int i = 0; i < pairs; i++) {
                if (Integer.bitCount(aparts[i] & book) < needs[i]) {
                    return false;
                }
            }
            return true;
        }
    }

    /** WINDOWS and CUTS of the LOG, and what EXPLAINS it; codes are renewed by who calls. */
    private static final class Chronicle {
        private final Model model;
        private final Codes codes;
        private final int[] terms;
        /** Sets of entries that some CAUSE EXPLAINS by some START, none of them within another one. */
        private final int[] offers = new int[MOST * ENTRIES];
        private int offerCount;

        private Chronicle(Model model, Codes codes, int[] terms) {
            this.model = model;
            this.codes = codes;
            this.terms = terms;
        }

        private int signsWithin(int t, int w) {
            int bits = 0;
            for (int i = 0; i < model.entries; i++) {
                int at = model.entryTimes[i];
                if (at >= t && at < t + w) {
                    bits |= 1 << model.entrySigns[i];
                }
            }
            return bits;
        }

        /** The first of the best WINDOWS begins at 0, or is the first that reaches some entry. */
        private int busiestFrom(int w) {
            int found = 0;
            int most = Integer.bitCount(signsWithin(0, w));
            for (int i = 0; i < model.entries; i++) {
                int t = Math.max(0, model.entryTimes[i] - w + 1);
                int many = Integer.bitCount(signsWithin(t, w));
                if (many > most || (many == most && t < found)) {
                    found = t;
                    most = many;
                }
            }
            return found;
        }

        private int earliestFrom(int t) {
            int found = NEVER;
            for (int i = 0; i < model.entries; i++) {
                if (model.entryTimes[i] >= t) {
                    found = Math.min(found, model.entryTimes[i]);
                }
            }
            return found;
        }

        private int cutBegin(int w, int i) {
            int begins = earliestFrom(0);
            for (int step = 0; step < i && step < ENTRIES; step++) {
                begins = earliestFrom(begins + w);
            }
            return begins;
        }

        private int cutCount(int w) {
            int many = 0;
            int begins = earliestFrom(0);
            for (int step = 0; step < ENTRIES && begins != NEVER; step++) {
                many++;
                begins = earliestFrom(begins + w);
            }
            return many;
        }

        /** Entries that a CAUSE begun at a START EXPLAINS, as bits. */
        private int explained(int cause, int start) {
            int bits = 0;
            for (int i = 0; i < model.entries; i++) {
                int after = codes.signTime(cause, model.entrySigns[i]);
                if (after != NEVER && Math.abs(model.entryTimes[i] - start - after) <= terms[SLACK]) {
                    bits |= 1 << i;
                }
            }
            return bits;
        }

        /** The earliest START by which a CAUSE may EXPLAIN an entry, its SIGN being in the CODE. */
        private int earliestStart(int cause, int entry) {
            int after = codes.signTime(cause, model.entrySigns[entry]);
            return Math.max(0, model.entryTimes[entry] - after - terms[SLACK]);
        }

        /** The earliest of the best STARTS is 0 or the earliest for some entry: else one less does as well. */
        private int bestStart(int cause) {
            int found = 0;
            int most = Integer.bitCount(explained(cause, 0));
            for (int i = 0; i < model.entries; i++) {
                int start = earliestStart(cause, i);
                int many = Integer.bitCount(explained(cause, start));
                if (many > most || (many == most && start < found)) {
                    found = start;
                    most = many;
                }
            }
            return found;
        }

        private int fewestThatExplainAll() {
            int all = (1 << model.entries) - 1;
            if (all == 0) {
                return 0;
            }
            listOffers();
            if (byOne(all)) {
                return 1;
            }
            if (byTwo(all)) {
                return 2;
            }
            return byThree(all) ? 3 : NONE;
        }

        /** Of all STARTS of a CAUSE those earliest for some entry are enough: one later EXPLAINS no more. */
        private void listOffers() {
            offerCount = 0;
            for (int c = 0; c < codes.causes.size; c++) {
                for (int i = 0; i < model.entries; i++) {
                    offer(explained(c, earliestStart(c, i)));
                }
            }
        }

        private void offer(int entries) {
            for (int i = 0; i < offerCount; i++) {
                if ((entries & ~offers[i]) == 0) {
                    return;
                }
            }
            int left = 0;
            for (int i = 0; i < offerCount; i++) {
                if ((offers[i] & ~entries) != 0) {
                    offers[left] = offers[i];
                    left++;
                }
            }
            if (left < offers.length) {
                offers[left] = entries;
                left++;
            }
            offerCount = left;
        }

        private boolean byOne(int entries) {
            for (int i = 0; i < offerCount; i++) {
                if ((entries & ~offers[i]) == 0) {
                    return true;
                }
            }
            return false;
        }

        private boolean byTwo(int entries) {
            int first = entries & -entries;
            for (int i = 0; i < offerCount; i++) {
                if ((offers[i] & first) != 0 && byOne(entries & ~offers[i])) {
                    return true;
                }
            }
            return false;
        }

        private boolean byThree(int entries) {
            int first = entries & -entries;
            for (int i = 0; i < offerCount; i++) {
                if ((offers[i] & first) != 0 && byTwo(entries & ~offers[i])) {
                    return true;
                }
            }
            return false;
        }
    }
}
