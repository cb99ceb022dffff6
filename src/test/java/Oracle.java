import java.math.BigInteger;
import java.util.ArrayList;
import java.util.Arrays;
import java.util.Collections;
import java.util.Comparator;
import java.util.HashMap;
import java.util.HashSet;
import java.util.LinkedHashSet;
import java.util.List;
import java.util.Map;
import java.util.Set;
import java.util.TreeMap;

/** The document once more, by search through all that can be, to hold CauseBook against. */
final class Oracle {
    private static final int NONE = -1;

    private static final class State {
        List<Integer> kinds = new ArrayList<>();
        List<List<Integer>> links = new ArrayList<>();
        List<List<Integer>> rules = new ArrayList<>();
        Map<Integer, Integer> weights = new TreeMap<>();
        Set<Integer> signKinds = new HashSet<>();
        Set<Integer> book = new HashSet<>();
        Set<Integer> seen = new HashSet<>();
        List<List<Integer>> log = new ArrayList<>();

        State copy() {
            State s = new State();
            s.kinds = new ArrayList<>(kinds);
            s.links = new ArrayList<>(links);
            s.rules = new ArrayList<>(rules);
            s.weights = new TreeMap<>(weights);
            s.signKinds = new HashSet<>(signKinds);
            s.book = new HashSet<>(book);
            s.seen = new HashSet<>(seen);
            s.log = new ArrayList<>(log);
            return s;
        }
    }

    private State now = new State();
    private final List<State> before = new ArrayList<>();
    private final List<Integer> acts = new ArrayList<>();
    private final State[] images = new State[2];
    private final int[] term = {2, 1, 1, 1};
    private final Map<Integer, Integer> refused = new HashMap<>();
    private int status = 0;
    /** What was found since the state became another one. */
    private final Map<Integer, Map<Integer, Integer>> spreads = new HashMap<>();
    private final Map<Integer, Set<Integer>> codes = new HashMap<>();

    // ---- terms of the document

    private int refuse(int by) {
        status = by;
        refused.merge(by, 1, Integer::sum);
        return by;
    }

    private void act(int which) {
        status = 0;
        push(which);
    }

    private void push(int which) {
        before.add(now);
        acts.add(which);
        now = now.copy();
        if (before.size() > 10) {
            before.remove(0);
            acts.remove(0);
        }
        forgetAfter(which);
    }

    /** From reduce() on acts change nothing that a spread comes of. */
    private void forgetAfter(int which) {
        if (which < 7) {
            spreads.clear();
            codes.clear();
        }
    }

    private static boolean in(int x, int low, int high) {
        return low <= x && x <= high;
    }

    /** Facts of a state, each as 8 times the object and the event. */
    private static List<Integer> facts(State s, Set<Integer> kindsAndEvents) {
        List<Integer> all = new ArrayList<>();
        for (int o = 0; o < s.kinds.size(); o++) {
            for (int e = 0; e < 8; e++) {
                if (kindsAndEvents.contains(8 * s.kinds.get(o) + e)) {
                    all.add(8 * o + e);
                }
            }
        }
        return all;
    }

    private List<Integer> causes() {
        return facts(now, now.weights.keySet());
    }

    private List<Integer> signs() {
        return facts(now, now.signKinds);
    }

    private int weight(int cause) {
        int fact = causes().get(cause);
        return now.weights.get(8 * now.kinds.get(fact / 8) + fact % 8);
    }

    private boolean isSet(int bits, int many) {
        return bits >= 0 && bits < (1 << many);
    }

    private static Set<Integer> members(int bits) {
        Set<Integer> all = new HashSet<>();
        for (int i = 0; i < 31; i++) {
            if ((bits & (1 << i)) != 0) {
                all.add(i);
            }
        }
        return all;
    }

    private static int bits(Set<Integer> all) {
        int bits = 0;
        for (int i : all) {
            bits |= 1 << i;
        }
        return bits;
    }

    private void newSigns() {
        now.book = new HashSet<>();
        for (int i = 0; i < signs().size(); i++) {
            now.book.add(i);
        }
        now.seen = new HashSet<>();
        now.log = new ArrayList<>();
    }

    private static boolean[][][] linked(State s) {
        boolean[][][] linked = new boolean[3][10][10];
        for (List<Integer> link : s.links) {
            linked[link.get(0)][link.get(1)][link.get(2)] = true;
        }
        return linked;
    }

    /** When a rule brings its event to an object, by facts that have their times; null: not at all. */
    private static Integer brings(State s, List<Integer> rule, int object, Map<Integer, Integer> times) {
        return brings(s, rule, object, times, linked(s));
    }

    private static Integer brings(State s, List<Integer> rule, int object, Map<Integer, Integer> times,
        boolean[][][] linked) {
        int sort = rule.get(0);
        int kindA = rule.get(1) / 8;
        int e = rule.get(1) % 8;
        int kindB = rule.get(3) / 8;
        int delay = rule.get(4);
        if (sort == 0) {
            Integer t = s.kinds.get(object) == kindA ? times.get(8 * object + e) : null;
            return t == null ? null : t + delay;
        }
        if (s.kinds.get(object) != kindB) {
            return null;
        }
        int sources = 0;
        List<Integer> had = new ArrayList<>();
        for (int o = 0; o < s.kinds.size(); o++) {
            boolean leads = sort == 2 ? linked[rule.get(2)][object][o] : linked[rule.get(2)][o][object];
            if (s.kinds.get(o) == kindA && leads) {
                sources++;
                if (times.containsKey(8 * o + e)) {
                    had.add(times.get(8 * o + e));
                }
            }
        }
        Collections.sort(had);
        if (sort == 3) {
            return sources > 0 && had.size() == sources ? had.get(sources - 1) + delay : null;
        }
        if (sort == 4) {
            return had.size() >= 2 ? had.get(1) + delay : null;
        }
        return had.isEmpty() ? null : had.get(0) + delay;
    }

    /** Time goes on step by step; what comes at a time comes of what is there by then. */
    private static Map<Integer, Integer> spreadOf(State s, Set<Integer> seeds) {
        Map<Integer, Integer> times = new TreeMap<>();
        for (int fact : seeds) {
            times.put(fact, 0);
        }
        boolean[][][] linked = linked(s);
        int latest = 0;
        for (int t = 0; t <= latest + 9; t++) {
            boolean more = true;
            while (more) {
                more = false;
                for (List<Integer> rule : s.rules) {
                    for (int o = 0; o < s.kinds.size(); o++) {
                        int fact = 8 * o + rule.get(3) % 8;
                        Integer at = times.containsKey(fact) ? null : brings(s, rule, o, times, linked);
                        if (at != null && at <= t) {
                            if (at != t) {
                                throw new IllegalStateException("a fact comes too late");
                            }
                            times.put(fact, t);
                            latest = t;
                            more = true;
                        }
                    }
                }
            }
        }
        return times;
    }

    private Map<Integer, Integer> spreadOfSet(int set) {
        if (!spreads.containsKey(set)) {
            Set<Integer> seeds = new HashSet<>();
            for (int c : members(set)) {
                seeds.add(causes().get(c));
            }
            spreads.put(set, spreadOf(now, seeds));
        }
        return spreads.get(set);
    }

    private Set<Integer> codeIn(Map<Integer, Integer> times) {
        Set<Integer> found = new HashSet<>();
        List<Integer> all = signs();
        for (int i = 0; i < all.size(); i++) {
            if (times.containsKey(all.get(i))) {
                found.add(i);
            }
        }
        return found;
    }

    private Set<Integer> codeOf(int set) {
        if (!codes.containsKey(set)) {
            codes.put(set, codeIn(spreadOfSet(set)));
        }
        return codes.get(set);
    }

    private Integer signTime(int cause, int sign) {
        return spreadOfSet(1 << cause).get(signs().get(sign));
    }

    private static int apart(Set<Integer> a, Set<Integer> b) {
        return far(a, b, null);
    }

    private static int far(Set<Integer> a, Set<Integer> b, Set<Integer> book) {
        int many = 0;
        for (int i = 0; i < 12; i++) {
            if (a.contains(i) != b.contains(i) && (book == null || book.contains(i))) {
                many++;
            }
        }
        return many;
    }

    private Set<Integer> nearestTo(Set<Integer> seen) {
        int least = 99;
        for (int c = 0; c < causes().size(); c++) {
            least = Math.min(least, far(codeOf(1 << c), seen, now.book));
        }
        Set<Integer> found = new HashSet<>();
        for (int c = 0; c < causes().size(); c++) {
            if (far(codeOf(1 << c), seen, now.book) == least) {
                found.add(c);
            }
        }
        return found;
    }

    private static List<Integer> byFewestThenBits(int below) {
        List<Integer> all = new ArrayList<>();
        for (int i = 0; i < below; i++) {
            all.add(i);
        }
        all.sort(Comparator.comparingInt((Integer i) -> Integer.bitCount(i)).thenComparingInt(i -> i));
        return all;
    }

    private Set<Integer> reducedTo(int d) {
        int n = causes().size();
        List<Set<Integer>> all = new ArrayList<>();
        for (int c = 0; c < n; c++) {
            all.add(codeOf(1 << c));
        }
        all.add(Set.of());
        for (int candidate : byFewestThenBits(1 << signs().size())) {
            Set<Integer> book = members(candidate);
            boolean good = true;
            for (int i = 0; i < n && good; i++) {
                for (int j = i + 1; j <= n && good; j++) {
                    int due = Math.min(d, apart(all.get(i), all.get(j)));
                    good = far(all.get(i), all.get(j), book) >= due;
                }
            }
            if (good) {
                return book;
            }
        }
        throw new IllegalStateException("all signs must do");
    }

    private BigInteger likely(Set<Integer> code) {
        BigInteger product = BigInteger.ONE;
        for (int s : now.book) {
            int factor;
            if (code.contains(s) && now.seen.contains(s)) {
                factor = 16 - term[0];
            } else if (code.contains(s)) {
                factor = term[0];
            } else if (now.seen.contains(s)) {
                factor = term[1];
            } else {
                factor = 16 - term[1];
            }
            product = product.multiply(BigInteger.valueOf(factor));
        }
        return product;
    }

    private BigInteger share(int cause) {
        return cause == NONE ? BigInteger.valueOf(term[2]).multiply(likely(Set.of()))
            : BigInteger.valueOf(weight(cause)).multiply(likely(codeOf(1 << cause)));
    }

    private List<Integer> rankedCauses() {
        List<Integer> all = new ArrayList<>();
        List<BigInteger> shares = new ArrayList<>();
        for (int c = 0; c < causes().size(); c++) {
            all.add(c);
            shares.add(share(c));
        }
        all.sort((a, b) -> shares.get(b).compareTo(shares.get(a)));
        return all;
    }

    private Set<Integer> inBook(Set<Integer> code) {
        Set<Integer> found = new HashSet<>(code);
        found.retainAll(now.book);
        return found;
    }

    private Set<Integer> groupOf(int cause) {
        Set<Integer> found = new HashSet<>();
        for (int c = 0; c < causes().size(); c++) {
            if (inBook(codeOf(1 << c)).equals(inBook(codeOf(1 << cause)))) {
                found.add(c);
            }
        }
        return found;
    }

    private Set<Integer> windowSigns(int t, int w) {
        Set<Integer> found = new HashSet<>();
        for (List<Integer> entry : now.log) {
            if (entry.get(1) >= t && entry.get(1) < t + w) {
                found.add(entry.get(0));
            }
        }
        return found;
    }

    private int explainedBy(int cause, int start) {
        int bits = 0;
        List<Integer> all = signs();
        Map<Integer, Integer> times = spreadOfSet(1 << cause);
        for (int i = 0; i < now.log.size(); i++) {
            Integer t = times.get(all.get(now.log.get(i).get(0)));
            if (t != null && Math.abs(now.log.get(i).get(1) - (start + t)) <= term[3]) {
                bits |= 1 << i;
            }
        }
        return bits;
    }

    private List<Integer> cutBegins(int w) {
        List<Integer> begins = new ArrayList<>();
        int[] times = now.log.stream().mapToInt(e -> e.get(1)).sorted().toArray();
        for (int t : times) {
            boolean covered = false;
            for (int b : begins) {
                covered |= t >= b && t < b + w;
            }
            if (!covered) {
                begins.add(t);
            }
        }
        return begins;
    }

    // ---- the face

    int terms(int what, int value) {
        int[] most = {16, 16, 9, 5};
        if (!in(what, 0, 3) || !in(value, 0, most[what])) {
            return refuse(-1);
        }
        status = 0;
        int was = term[what];
        term[what] = value;
        return was;
    }

    int object(int kind) {
        if (!in(kind, 0, 3)) {
            return refuse(-1);
        }
        State then = now.copy();
        then.kinds.add(kind);
        if (then.kinds.size() > 10 || facts(then, then.weights.keySet()).size() > 12
            || facts(then, then.signKinds).size() > 12) {
            return refuse(-5);
        }
        int were = signs().size();
        act(0);
        now.kinds.add(kind);
        if (signs().size() > were) {
            newSigns();
        }
        return now.kinds.size() - 1;
    }

    int link(int relation, int from, int to) {
        if (!in(relation, 0, 2)) {
            return refuse(-1);
        }
        if (!in(from, 0, now.kinds.size() - 1) || !in(to, 0, now.kinds.size() - 1)) {
            return refuse(-2);
        }
        List<Integer> link = List.of(relation, from, to);
        if (from == to || now.links.contains(link)) {
            return refuse(-4);
        }
        if (now.links.size() == 20) {
            return refuse(-5);
        }
        act(1);
        now.links.add(link);
        return now.links.size() - 1;
    }

    int cut(int link) {
        if (!in(link, 0, now.links.size() - 1)) {
            return refuse(-2);
        }
        act(2);
        now.links.remove(link);
        return now.links.size();
    }

    int rule(int sort, int a, int relation, int b, int delay) {
        if (!in(sort, 0, 4) || !in(a, 0, 31) || !in(relation, 0, 2) || !in(b, 0, 31) || !in(delay, 0, 9)) {
            return refuse(-1);
        }
        if (now.rules.size() == 12) {
            return refuse(-5);
        }
        act(3);
        now.rules.add(List.of(sort, a, relation, b, delay));
        return now.rules.size() - 1;
    }

    int drop(int rule) {
        if (!in(rule, 0, now.rules.size() - 1)) {
            return refuse(-2);
        }
        act(4);
        now.rules.remove(rule);
        return now.rules.size();
    }

    int cause(int kind, int event, int weight) {
        if (!in(kind, 0, 3) || !in(event, 0, 7) || !in(weight, 0, 9)) {
            return refuse(-1);
        }
        int was = now.weights.getOrDefault(8 * kind + event, 0);
        if (was == weight) {
            return refuse(-4);
        }
        State then = now.copy();
        then.weights.put(8 * kind + event, weight);
        if (weight > 0 && facts(then, then.weights.keySet()).size() > 12) {
            return refuse(-5);
        }
        act(5);
        if (weight == 0) {
            now.weights.remove(8 * kind + event);
        } else {
            now.weights.put(8 * kind + event, weight);
        }
        return was;
    }

    int sign(int kind, int event) {
        if (!in(kind, 0, 3) || !in(event, 0, 7)) {
            return refuse(-1);
        }
        State then = now.copy();
        boolean fresh = then.signKinds.add(8 * kind + event);
        if (fresh && facts(then, then.signKinds).size() > 12) {
            return refuse(-5);
        }
        act(6);
        if (fresh) {
            now.signKinds.add(8 * kind + event);
        } else {
            now.signKinds.remove(8 * kind + event);
        }
        newSigns();
        return signs().size();
    }

    int reduce(int d) {
        if (!in(d, 1, 6)) {
            return refuse(-1);
        }
        Set<Integer> found = reducedTo(d);
        act(7);
        now.book = found;
        return found.size();
    }

    int book(int signs) {
        if (!isSet(signs, signs().size())) {
            return refuse(-1);
        }
        act(8);
        now.book = members(signs);
        return now.book.size();
    }

    int see(int signs) {
        if (!isSet(signs, signs().size())) {
            return refuse(-1);
        }
        act(9);
        Set<Integer> was = now.seen;
        now.seen = members(signs);
        return apart(was, now.seen);
    }

    int note(int sign, int time) {
        if (!in(time, 0, 999)) {
            return refuse(-1);
        }
        if (!in(sign, 0, signs().size() - 1)) {
            return refuse(-2);
        }
        if (now.log.size() == 20) {
            return refuse(-5);
        }
        act(10);
        now.log.add(List.of(sign, time));
        return now.log.size();
    }

    int clear() {
        push(11);
        int were = now.log.size();
        now.log = new ArrayList<>();
        return were;
    }

    int window(int t, int w) {
        if (!in(t, 0, 999) || !in(w, 1, 999)) {
            return refuse(-1);
        }
        act(12);
        now.seen = windowSigns(t, w);
        return now.seen.size();
    }

    int undo() {
        if (before.isEmpty()) {
            return refuse(-4);
        }
        status = 0;
        now = before.remove(before.size() - 1);
        forgetAfter(acts.get(acts.size() - 1));
        return acts.remove(acts.size() - 1);
    }

    int image(int k) {
        if (!in(k, 0, 1)) {
            return refuse(-1);
        }
        status = 0;
        images[k] = now.copy();
        return now.kinds.size();
    }

    int back(int k) {
        if (!in(k, 0, 1)) {
            return refuse(-1);
        }
        if (images[k] == null) {
            return refuse(-4);
        }
        status = 0;
        now = images[k].copy();
        before.clear();
        acts.clear();
        forgetAfter(0);
        return now.kinds.size();
    }

    int time(int causes, int object, int event) {
        if (!isSet(causes, causes().size()) || !in(object, 0, now.kinds.size() - 1) || !in(event, 0, 7)) {
            return NONE;
        }
        return spreadOfSet(causes).getOrDefault(8 * object + event, -2);
    }

    int spread(int causes, int what) {
        if (!isSet(causes, causes().size()) || !in(what, 0, 3)) {
            return NONE;
        }
        Map<Integer, Integer> times = spreadOfSet(causes);
        if (what == 0) {
            return times.size();
        }
        if (what == 1) {
            return times.values().stream().mapToInt(t -> t).max().orElse(0);
        }
        if (what == 2) {
            return (int) times.keySet().stream().map(f -> f / 8).distinct().count();
        }
        int found = 0;
        for (int r = 0; r < now.rules.size(); r++) {
            for (int o = 0; o < now.kinds.size(); o++) {
                Integer at = brings(now, now.rules.get(r), o, times);
                if (at != null && at.equals(times.get(8 * o + now.rules.get(r).get(3) % 8))) {
                    found |= 1 << r;
                }
            }
        }
        return found;
    }

    int code(int causes) {
        return isSet(causes, causes().size()) ? bits(codeOf(causes)) : NONE;
    }

    private boolean isCause(int cause) {
        return in(cause, 0, causes().size() - 1);
    }

    int distance(int cause, int other, int what) {
        if (!isCause(cause) || (other != NONE && !isCause(other)) || !in(what, 0, 1)) {
            return NONE;
        }
        Set<Integer> a = codeOf(1 << cause);
        Set<Integer> b = other == NONE ? Set.of() : codeOf(1 << other);
        return what == 0 ? far(a, b, now.book) : apart(a, b);
    }

    int nearest(int what) {
        if (causes().isEmpty() || !in(what, 0, 4)) {
            return NONE;
        }
        Set<Integer> found = nearestTo(now.seen);
        int first = Collections.min(found);
        if (what == 0) {
            return far(codeOf(1 << first), now.seen, now.book);
        }
        if (what == 1) {
            return found.size();
        }
        if (what == 2) {
            return first;
        }
        if (what == 3) {
            return bits(found);
        }
        int least = 99;
        for (int c = 0; c < causes().size(); c++) {
            if (!found.contains(c)) {
                least = Math.min(least, far(codeOf(1 << c), now.seen, now.book));
            }
        }
        return least == 99 ? NONE : least;
    }

    int joint(int n, int what) {
        if (causes().isEmpty() || !in(n, 1, 3) || !in(what, 0, 2)) {
            return NONE;
        }
        int least = 99;
        int which = 0;
        int many = 0;
        for (int set : byFewestThenBits(1 << causes().size())) {
            if (!in(Integer.bitCount(set), 1, n)) {
                continue;
            }
            int far = far(codeOf(set), now.seen, now.book);
            if (far < least) {
                least = far;
                which = set;
                many = 0;
            }
            many += far == least ? 1 : 0;
        }
        return what == 0 ? which : what == 1 ? least : many;
    }

    long odds(int cause, int what) {
        if ((cause != NONE && !isCause(cause)) || !in(what, 0, 1)) {
            return NONE;
        }
        BigInteger total = share(NONE);
        for (int c = 0; c < causes().size(); c++) {
            total = total.add(share(c));
        }
        if (total.signum() == 0) {
            return what;
        }
        BigInteger gcd = total.gcd(share(cause));
        return (what == 0 ? share(cause) : total).divide(gcd).longValueExact();
    }

    int likeliest(int what) {
        if (causes().isEmpty() || !in(what, 0, 2)) {
            return NONE;
        }
        BigInteger greatest = BigInteger.valueOf(-1);
        int first = NONE;
        int many = 0;
        for (int c = 0; c < causes().size(); c++) {
            if (share(c).compareTo(greatest) > 0) {
                greatest = share(c);
                first = c;
                many = 0;
            }
            many += share(c).equals(greatest) ? 1 : 0;
        }
        return what == 0 ? first : what == 1 ? many : share(NONE).compareTo(greatest) > 0 ? 1 : 0;
    }

    int ranked(int i) {
        return isCause(i) ? rankedCauses().get(i) : NONE;
    }

    int hold(int what) {
        if (!in(what, 0, 1) || causes().isEmpty()) {
            return NONE;
        }
        Set<Integer> near = nearestTo(now.seen);
        if (near.size() == causes().size()) {
            return NONE;
        }
        for (int turned : byFewestThenBits(1 << signs().size())) {
            if (!now.book.containsAll(members(turned))) {
                continue;
            }
            Set<Integer> then = nearestTo(members(bits(now.seen) ^ turned));
            if (!near.containsAll(then)) {
                return what == 0 ? Integer.bitCount(turned) : turned;
            }
        }
        return NONE;
    }

    int minimal(int sign, int i) {
        if (!in(sign, 0, signs().size() - 1)) {
            return NONE;
        }
        List<Integer> found = new ArrayList<>();
        for (int set : byFewestThenBits(1 << causes().size())) {
            if (!in(Integer.bitCount(set), 1, 3) || !codeOf(set).contains(sign)) {
                continue;
            }
            boolean smaller = false;
            for (int part = 1; part < set; part++) {
                smaller |= (part & ~set) == 0 && codeOf(part).contains(sign);
            }
            if (!smaller) {
                found.add(set);
            }
        }
        return i == NONE ? found.size() : in(i, 0, found.size() - 1) ? found.get(i) : NONE;
    }

    int weakest(int what) {
        if (now.links.isEmpty() || !in(what, 0, 1)) {
            return NONE;
        }
        int which = 0;
        int most = -1;
        for (int l = 0; l < now.links.size(); l++) {
            State then = now.copy();
            then.links.remove(l);
            int others = 0;
            for (int c = 0; c < causes().size(); c++) {
                others += codeIn(spreadOf(then, Set.of(causes().get(c)))).equals(codeOf(1 << c)) ? 0 : 1;
            }
            if (others > most) {
                most = others;
                which = l;
            }
        }
        return what == 0 ? which : most;
    }

    int ordered(int cause, int i) {
        if (!isCause(cause)) {
            return NONE;
        }
        List<Integer> all = new ArrayList<>(codeOf(1 << cause));
        Collections.sort(all);
        all.sort(Comparator.comparingInt(s -> signTime(cause, s)));
        return in(i, 0, all.size() - 1) ? all.get(i) : NONE;
    }

    int sure(int cause) {
        if (!isCause(cause)) {
            return NONE;
        }
        Set<Integer> last = null;
        for (int t = 0; t <= 800; t++) {
            Set<Integer> seen = new HashSet<>();
            for (int s : codeOf(1 << cause)) {
                if (signTime(cause, s) <= t) {
                    seen.add(s);
                }
            }
            if (!seen.equals(last) && nearestTo(seen).equals(groupOf(cause))) {
                return t;
            }
            last = seen;
        }
        return -2;
    }

    int busiest(int w, int what) {
        if (!in(w, 1, 999) || !in(what, 0, 1)) {
            return NONE;
        }
        int first = 0;
        int most = -1;
        for (int t = 0; t <= 999; t++) {
            int many = windowSigns(t, w).size();
            if (many > most) {
                most = many;
                first = t;
            }
        }
        return what == 0 ? first : most;
    }

    int groups(int what) {
        if (!in(what, 0, 4)) {
            return NONE;
        }
        int n = causes().size();
        Set<Set<Integer>> all = new HashSet<>();
        Set<Integer> empty = new HashSet<>();
        Set<Integer> unused = new HashSet<>();
        for (int s = 0; s < signs().size(); s++) {
            unused.add(s);
        }
        for (int c = 0; c < n; c++) {
            all.add(inBook(codeOf(1 << c)));
            if (inBook(codeOf(1 << c)).isEmpty()) {
                empty.add(c);
            }
            unused.removeAll(codeOf(1 << c));
        }
        int margin = 99;
        for (Set<Integer> a : all) {
            for (Set<Integer> b : all) {
                margin = a.equals(b) ? margin : Math.min(margin, apart(a, b));
            }
        }
        if (what == 0) {
            return all.size();
        }
        if (what == 3) {
            return bits(empty);
        }
        if (what == 4) {
            return bits(unused);
        }
        return all.size() < 2 ? NONE : what == 1 ? margin : Math.floorDiv(margin - 1, 2);
    }

    int group(int cause) {
        return isCause(cause) ? Collections.min(groupOf(cause)) : NONE;
    }

    int reduced(int d) {
        return in(d, 1, 6) ? reducedTo(d).size() : NONE;
    }

    int ask(int what) {
        Set<Integer> near = nearestTo(now.seen);
        if (!in(what, 0, 1) || near.size() < 2 || now.book.isEmpty()) {
            return NONE;
        }
        int least = 99;
        int which = NONE;
        for (int s = 0; s < signs().size(); s++) {
            int with = 0;
            int without = 0;
            for (int c : near) {
                if (codeOf(1 << c).contains(s)) {
                    with++;
                } else {
                    without++;
                }
            }
            if (now.book.contains(s) && Math.max(with, without) < least) {
                least = Math.max(with, without);
                which = s;
            }
        }
        return what == 0 ? which : least;
    }

    int cuts(int w, int i, int what) {
        if (!in(w, 1, 999)) {
            return NONE;
        }
        List<Integer> begins = cutBegins(w);
        if (i == NONE) {
            return begins.size();
        }
        if (!in(i, 0, begins.size() - 1) || !in(what, 0, 2)) {
            return NONE;
        }
        Set<Integer> its = windowSigns(begins.get(i), w);
        if (what == 2) {
            return causes().isEmpty() ? NONE : Collections.min(nearestTo(its));
        }
        return what == 0 ? begins.get(i) : bits(its);
    }

    int explains(int cause, int start) {
        return isCause(cause) && in(start, 0, 999) ? Integer.bitCount(explainedBy(cause, start)) : NONE;
    }

    int best(int cause, int what) {
        if (!isCause(cause) || !in(what, 0, 1)) {
            return NONE;
        }
        int first = 0;
        int most = -1;
        for (int start = 0; start <= 999; start++) {
            int many = Integer.bitCount(explainedBy(cause, start));
            if (many > most) {
                most = many;
                first = start;
            }
        }
        return what == 0 ? first : most;
    }

    int cover() {
        int all = (1 << now.log.size()) - 1;
        if (all == 0) {
            return 0;
        }
        Set<Integer> distinct = new LinkedHashSet<>();
        for (int c = 0; c < causes().size(); c++) {
            for (int start = 0; start <= 999; start++) {
                distinct.add(explainedBy(c, start));
            }
        }
        // what lies within another one is never needed; it would only make the search long
        int[] masks = distinct.stream()
            .filter(m -> distinct.stream().noneMatch(o -> !o.equals(m) && (m & ~o) == 0))
            .mapToInt(m -> m).toArray();
        int fewest = 4;
        for (int a : masks) {
            fewest = a == all ? 1 : fewest;
            for (int b : masks) {
                fewest = (a | b) == all ? Math.min(fewest, 2) : fewest;
                for (int c : masks) {
                    fewest = (a | b | c) == all ? Math.min(fewest, 3) : fewest;
                }
            }
        }
        return fewest == 4 ? NONE : fewest;
    }

    int ofCause(int cause, int what) {
        if (!isCause(cause) || !in(what, 0, 4)) {
            return NONE;
        }
        if (what <= 1) {
            return what == 0 ? causes().get(cause) / 8 : causes().get(cause) % 8;
        }
        if (what == 2) {
            return weight(cause);
        }
        Set<Integer> code = codeOf(1 << cause);
        return what == 3 ? code.size() : code.stream().mapToInt(s -> signTime(cause, s)).max().orElse(NONE);
    }

    int ofSign(int sign, int what) {
        if (!in(sign, 0, signs().size() - 1) || !in(what, 0, 4)) {
            return NONE;
        }
        switch (what) {
            case 0: return signs().get(sign) / 8;
            case 1: return signs().get(sign) % 8;
            case 2: return now.book.contains(sign) ? 1 : 0;
            case 3: return now.seen.contains(sign) ? 1 : 0;
            default:
        }
        Set<Integer> found = new HashSet<>();
        for (int c = 0; c < causes().size(); c++) {
            if (codeOf(1 << c).contains(sign)) {
                found.add(c);
            }
        }
        return bits(found);
    }

    int ofObject(int object, int what) {
        if (!in(object, 0, now.kinds.size() - 1) || !in(what, 0, 6)) {
            return NONE;
        }
        if (what == 0) {
            return now.kinds.get(object);
        }
        Set<Integer> found = new HashSet<>();
        for (List<Integer> link : now.links) {
            if (what <= 3 && link.get(0) == what - 1 && link.get(1) == object) {
                found.add(link.get(2));
            }
            if (what >= 4 && link.get(0) == what - 4 && link.get(2) == object) {
                found.add(link.get(1));
            }
        }
        return bits(found);
    }

    int ofRule(int rule, int what) {
        return in(rule, 0, now.rules.size() - 1) && in(what, 0, 4) ? now.rules.get(rule).get(what) : NONE;
    }

    int count(int what) {
        if (!in(what, 0, 16)) {
            return NONE;
        }
        List<Integer> all = new ArrayList<>(Arrays.asList(now.kinds.size(), now.links.size(), now.rules.size(),
            causes().size(), signs().size(), bits(now.book), bits(now.seen), now.log.size(), before.size()));
        for (int by : new int[] {-1, -2, -4, -5}) {
            all.add(refused.getOrDefault(by, 0));
        }
        for (int t : term) {
            all.add(t);
        }
        return all.get(what);
    }

    int status() {
        return status;
    }
}
