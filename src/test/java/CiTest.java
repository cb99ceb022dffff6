import java.nio.file.Files;
import java.nio.file.Path;
import java.util.LinkedHashMap;
import java.util.Map;

/** .ci/run on small checkouts: it runs all tests there are, and fails if one fails or can't be run. */
public final class CiTest {
    private static final String PASS = "System.out.println(\"NAME was run \" + CauseBook.NONE);";
    private static final String FAIL = "System.out.println(\"NAME was run\"); System.exit(1);";
    private static final String DIE = "System.out.println(\"NAME was run\"); throw new IllegalStateException();";
    private static final String NO_JAVA = "no Java";
    private static final String[] OWN = {"FirstTest", "LastTest"};
    private static final String[] SHARED = {"SharedOne", "SharedTwo"};

    public static void main(String[] args) throws Exception {
        Path room = Files.createTempDirectory("ci");
        int wrong = 0;
        try {
            Map<String, Process> begun = new LinkedHashMap<>();
            for (String broken : new String[] {"nothing", "FirstTest", "LastTest", "SharedOne", "SharedTwo",
                "FirstTest dies", "SharedOne dies", "FirstTest compiles", "SharedOne compiles",
                "CauseBook compiles", "shared tests", "shared"}) {
                Path checkout = make(room.resolve(broken.replace(' ', '_')), broken);
                begun.put(broken, Shell.begin(checkout.getParent(), "sh", "main/.ci/run"));
            }
            for (Map.Entry<String, Process> run : begun.entrySet()) {
                int exit = run.getValue().waitFor();
                String told = Shell.told(room.resolve(run.getKey().replace(' ', '_')));
                if (!asDue(run.getKey(), exit, told)) {
                    wrong++;
                    System.out.println("CiTest: broken is " + run.getKey() + ", exit code " + exit + "\n" + told);
                }
            }
        } finally {
            Shell.remove(room);
        }
        System.out.println("CiTest: " + wrong + " wrong");
        if (wrong != 0) {
            System.exit(1);
        }
    }

    private static Path make(Path place, String broken) throws Exception {
        Path checkout = Files.createDirectories(place.resolve("main"));
        Files.createDirectories(checkout.resolve(".ci"));
        Files.copy(Path.of(".ci/run"), checkout.resolve(".ci/run"));
        Path main = Files.createDirectories(checkout.resolve("src/main/java"));
        Files.writeString(main.resolve("CauseBook.java"), broken.equals("CauseBook compiles") ? NO_JAVA
            : "public final class CauseBook { public static final int NONE = -1; }");
        Path own = Files.createDirectories(checkout.resolve("src/test/java"));
        for (String name : OWN) {
            write(own, name, broken);
        }
        if (!broken.equals("shared")) {
            Path shared = Files.createDirectories(place.resolve("shared/tests"));
            for (String name : broken.equals("shared tests") ? new String[0] : SHARED) {
                write(shared, name, broken);
            }
        }
        return checkout;
    }

    private static void write(Path directory, String name, String broken) throws Exception {
        String body = broken.equals(name) ? FAIL : broken.equals(name + " dies") ? DIE : PASS;
        String source = "public final class " + name + " { public static void main(String[] args) { "
            + body.replace("NAME", name) + " } }";
        Files.writeString(directory.resolve(name + ".java"), broken.equals(name + " compiles") ? NO_JAVA : source);
    }

    /** Only what can't be compiled, or is not there, is not run; all else is, whatever failed ahead of it. */
    private static boolean asDue(String broken, int exit, String told) {
        boolean holds = exit == (broken.equals("nothing") ? 0 : 1);
        for (String name : OWN) {
            holds &= told.contains(name + " was run")
                == !(broken.equals("FirstTest compiles") || broken.equals("CauseBook compiles"));
        }
        for (String name : SHARED) {
            holds &= told.contains(name + " was run")
                == !(broken.equals(name + " compiles") || broken.startsWith("CauseBook") || broken.startsWith("shared"));
        }
        for (String name : new String[] {"FirstTest", "LastTest", "shared SharedOne", "shared SharedTwo"}) {
            String last = name.substring(name.indexOf(' ') + 1);
            boolean ran = told.contains(last + " was run");
            boolean fails = broken.equals(last) || broken.equals(last + " dies");
            holds &= !ran || told.contains((fails ? "FAILED " : "ok     ") + name + "\n");
        }
        return holds && told.contains(broken.equals("nothing") ? " 0 failed" : "FAILED ");
    }
}
