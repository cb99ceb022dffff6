import java.lang.reflect.Method;
import java.util.ArrayList;
import java.util.List;
import java.util.Random;

/** Runs of drawn calls, each answered by CauseBook and by Oracle; the seeds are fixed, so all runs are alike. */
public final class OracleTest {
    private static final String[] BUILDING = {"object", "link", "rule", "cause", "sign"};
    private static final String[] CHANGING_DENSE = {"link", "cut", "rule", "drop", "cause", "undo", "sign"};
    private static final String[] READING = {"see", "note", "window", "book", "reduce", "terms", "undo"};
    private static final String[] ACTING = {"terms", "object", "link", "cut", "rule", "drop", "cause", "sign",
        "reduce", "book", "see", "note", "note", "note", "clear", "window", "undo", "image", "back"};
    private static final String[] ASKING = {"time", "spread", "code", "distance", "nearest", "joint", "odds",
        "likeliest", "ranked", "hold", "minimal", "weakest", "ordered", "sure", "busiest", "groups", "group",
        "reduced", "ask", "cuts", "explains", "best", "cover", "ofCause", "ofSign", "ofObject", "ofRule", "count",
        "status"};
    private static final int CALLS = 512;

    private final Random random;
    private final CauseBook book = new CauseBook();
    private final Oracle oracle = new Oracle();
    private final int kinds;
    private final int events;
    private final int timeSpan;
    private final boolean settles;
    /** Few kinds, many links and rules, a log that comes of causes: so that much comes of much. */
    private final boolean dense;
    /** Every third number or so is one that can't be. */
    private final boolean wild;
    private final List<String> told = new ArrayList<>();

    private OracleTest(long seed) {
        random = new Random(seed);
        dense = seed % 3 != 0;
        wild = seed % 5 == 0;
        kinds = 1 + random.nextInt(dense ? 2 : 4);
        events = dense ? 3 + random.nextInt(2) : 1 + random.nextInt(8);
        timeSpan = random.nextBoolean() ? 1000 : 12 + random.nextInt(60);
        settles = random.nextInt(3) != 0;
    }

    public static void main(String[] args) throws Exception {
        int first = args.length > 0 ? Integer.parseInt(args[0]) : 1;
        int runs = args.length > 1 ? Integer.parseInt(args[1]) : 120;
        int wrong = 0;
        for (int seed = first; seed < first + runs; seed++) {
            wrong += new OracleTest(seed).run(seed) ? 0 : 1;
        }
        System.out.println("OracleTest: " + runs + " runs, " + wrong + " of them wrong");
        if (wrong != 0) {
            System.exit(1);
        }
    }

    private boolean run(int seed) throws Exception {
        for (int i = 0; i < CALLS; i++) {
            String name = draw(i);
            if (!same(name, arguments(name))) {
                System.out.println("run " + seed + ", call " + i + ": " + told.get(told.size() - 1));
                return false;
            }
        }
        return true;
    }

    private String draw(int i) {
        if (dense && i < 60) {
            return i < 9 ? "object" : i < 13 ? "cause" : i < 21 ? "sign" : i < 46 ? "link" : "rule";
        }
        if (i < 40 || (settles && i < 70 && random.nextBoolean())) {
            return pick(BUILDING);
        }
        if (dense && random.nextInt(100) < 95) {
            int odd = random.nextInt(100);
            return odd < 5 ? pick(CHANGING_DENSE) : odd < 15 ? "note" : odd < 30 ? pick(READING) : pick(ASKING);
        }
        int share = settles ? 12 : 30;
        if (random.nextInt(100) < share) {
            return pick(ACTING);
        }
        if (random.nextInt(100) < 25) {
            return pick(READING);
        }
        return pick(ASKING);
    }

    private String pick(String[] names) {
        return names[random.nextInt(names.length)];
    }

    private boolean same(String name, int[] args) throws Exception {
        long got = call(CauseBook.class, book, name, args);
        long due = call(Oracle.class, oracle, name, args);
        StringBuilder row = new StringBuilder(name + "(");
        for (int i = 0; i < args.length; i++) {
            row.append(i == 0 ? "" : ", ").append(args[i]);
        }
        told.add(row + ") answered " + got + ", due is " + due);
        return got == due;
    }

    private static long call(Class<?> type, Object target, String name, int[] args) throws Exception {
        for (Method m : type.getDeclaredMethods()) {
            if (m.getName().equals(name) && !java.lang.reflect.Modifier.isPrivate(m.getModifiers())) {
                m.setAccessible(true);
                Object[] boxed = new Object[args.length];
                for (int i = 0; i < args.length; i++) {
                    boxed[i] = args[i];
                }
                return ((Number) m.invoke(target, boxed)).longValue();
            }
        }
        throw new IllegalStateException(name);
    }

    // ---- what is asked with

    private int upTo(int most) {
        int odd = random.nextInt(wild ? 16 : 100);
        if (odd == 0) {
            return new int[] {Integer.MIN_VALUE, Integer.MAX_VALUE, -2, -5, 31, 32, 4096, 1 << 30}[random.nextInt(8)];
        }
        if (odd <= 2) {
            return most + 1;
        }
        if (odd <= 4) {
            return -1;
        }
        return random.nextInt(Math.max(1, most + 1));
    }

    private int kind() {
        return random.nextInt(40) == 0 ? upTo(3) : random.nextInt(kinds);
    }

    private int event() {
        return random.nextInt(40) == 0 ? upTo(7) : random.nextInt(events);
    }

    private int mark() {
        return random.nextInt(40) == 0 ? upTo(31) : 8 * random.nextInt(kinds) + random.nextInt(events);
    }

    private int aCause() {
        return upTo(oracle.count(3) - 1);
    }

    private int aSign() {
        return upTo(oracle.count(4) - 1);
    }

    private int causeSet() {
        int set = upTo((1 << oracle.count(3)) - 1);
        return random.nextInt(3) == 0 || set < 0 ? set : set & random.nextInt(4096);
    }

    private int signSet() {
        int all = (1 << oracle.count(4)) - 1;
        if (random.nextInt(4) == 0 && oracle.count(3) > 0) {
            int code = oracle.code(1 << random.nextInt(oracle.count(3)));
            return random.nextBoolean() ? code : (code ^ 1 << random.nextInt(12)) & all;
        }
        return upTo(all);
    }

    private int width() {
        return random.nextInt(5) == 0 ? upTo(999) : 1 + random.nextInt(30);
    }

    private int moment() {
        return random.nextInt(15) == 0 ? upTo(999) : random.nextInt(timeSpan);
    }

    /** A sign that comes of some cause begun at one of three starts, sometimes a little too early or late. */
    private int[] entryOfCause() {
        if (oracle.count(3) == 0) {
            return new int[] {aSign(), moment()};
        }
        int cause = random.nextInt(Math.min(3, oracle.count(3)));
        int sign = oracle.ordered(cause, random.nextInt(1 + oracle.ofCause(cause, 3)));
        if (sign < 0) {
            return new int[] {aSign(), moment()};
        }
        int after = oracle.time(1 << cause, oracle.ofSign(sign, 0), oracle.ofSign(sign, 1));
        return new int[] {sign, new int[] {0, 5, 40}[random.nextInt(3)] + after + random.nextInt(3) - random.nextInt(2)};
    }

    private int start() {
        return dense && random.nextBoolean() ? new int[] {0, 5, 40}[random.nextInt(3)] + random.nextInt(2) : moment();
    }

    private int[] arguments(String name) {
        switch (name) {
            case "terms": {
                int what = upTo(3);
                int most = what < 0 || what > 3 ? 9 : new int[] {16, 16, 9, 5}[what];
                return new int[] {what, random.nextInt(4) == 0 ? (random.nextBoolean() ? most : 0) : upTo(most)};
            }
            case "object": return new int[] {kind()};
            case "link": return dense && random.nextInt(8) != 0
                ? new int[] {0, random.nextInt(Math.max(1, oracle.count(0))), random.nextInt(Math.max(1, oracle.count(0)))}
                : new int[] {random.nextInt(4) == 0 ? upTo(2) : 0, upTo(oracle.count(0) - 1), upTo(oracle.count(0) - 1)};
            case "cut": return new int[] {upTo(oracle.count(1) - 1)};
            case "rule": return dense && random.nextInt(8) != 0
                ? new int[] {random.nextInt(5), 8 * random.nextInt(kinds) + random.nextInt(3), 0,
                    8 * random.nextInt(kinds) + 1 + random.nextInt(3), random.nextInt(10)}
                : new int[] {upTo(4), mark(), random.nextInt(4) == 0 ? upTo(2) : 0, mark(),
                random.nextInt(3) == 0 ? 0 : upTo(9)};
            case "drop": return new int[] {upTo(oracle.count(2) - 1)};
            case "cause": return new int[] {kind(), dense && random.nextInt(6) != 0 ? 0 : event(), upTo(9)};
            case "sign": return new int[] {kind(), dense && random.nextInt(6) != 0 ? 1 + random.nextInt(3) : event()};
            case "reduce": case "reduced": return new int[] {random.nextInt(10) == 0 ? upTo(7) : 1 + random.nextInt(6)};
            case "book": case "see": return new int[] {signSet()};
            case "note": return dense && random.nextInt(8) != 0 ? entryOfCause() : new int[] {aSign(), moment()};
            case "window": return new int[] {start(), width()};
            case "image": case "back": return new int[] {upTo(1)};
            case "time": return new int[] {causeSet(), upTo(oracle.count(0) - 1), event()};
            case "spread": return new int[] {causeSet(), upTo(3)};
            case "code": return new int[] {causeSet()};
            case "distance": return new int[] {aCause(), random.nextInt(4) == 0 ? -1 : aCause(), upTo(1)};
            case "nearest": return new int[] {upTo(4)};
            case "joint": return new int[] {random.nextInt(10) == 0 ? upTo(4) : 1 + random.nextInt(3), upTo(2)};
            case "odds": return new int[] {random.nextInt(5) == 0 ? -1 : aCause(), upTo(1)};
            case "likeliest": return new int[] {upTo(2)};
            case "ranked": return new int[] {aCause()};
            case "hold": case "weakest": case "ask": return new int[] {upTo(1)};
            case "minimal": return new int[] {aSign(), random.nextBoolean() ? -1 : upTo(6)};
            case "ordered": return new int[] {aCause(), upTo(random.nextInt(6))};
            case "sure": case "group": return new int[] {aCause()};
            case "busiest": return new int[] {width(), upTo(1)};
            case "groups": return new int[] {upTo(4)};
            case "cuts": return new int[] {width(), random.nextInt(4) == 0 ? -1 : upTo(random.nextInt(6)), upTo(2)};
            case "explains": return new int[] {aCause(), start()};
            case "best": return new int[] {aCause(), upTo(1)};
            case "ofCause": return new int[] {aCause(), upTo(4)};
            case "ofSign": return new int[] {aSign(), upTo(4)};
            case "ofObject": return new int[] {upTo(oracle.count(0) - 1), upTo(6)};
            case "ofRule": return new int[] {upTo(oracle.count(2) - 1), upTo(4)};
            case "count": return new int[] {upTo(16)};
            default: return new int[0];
        }
    }
}
