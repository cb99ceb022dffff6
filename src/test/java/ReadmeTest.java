import java.io.File;
import java.lang.reflect.Method;
import java.lang.reflect.Modifier;
import java.nio.file.Files;
import java.nio.file.Path;
import java.util.ArrayList;
import java.util.List;
import java.util.Set;
import java.util.TreeSet;
import java.util.regex.Matcher;
import java.util.regex.Pattern;
import java.util.stream.Stream;

/** What README.md says of how to use the class and of how to run its tests is so. */
public final class ReadmeTest {
    private static final String FIRST_LINE = "CauseBook x = new CauseBook();";
    /** A call, perhaps kept under a name, and its answer. */
    private static final Pattern CALL = Pattern.compile("((?:int|long) (\\w+) = )?(x\\.(\\w+)\\(.*\\)); +// (-?\\d+)(?:, .*)?");
    private static int wrong = 0;

    public static void main(String[] args) throws Exception {
        String readme = Files.readString(Path.of("README.md"));
        Path room = Files.createTempDirectory("readme");
        try {
            calls(readme, room);
            tests(readme);
            commands(readme, room);
        } finally {
            Shell.remove(room);
        }
        System.out.println("ReadmeTest: " + (wrong == 0 ? "all is so" : wrong + " not so"));
        if (wrong != 0) {
            System.exit(1);
        }
    }

    private static void need(boolean holds, String what) {
        if (!holds) {
            wrong++;
            System.out.println("ReadmeTest: " + what);
        }
    }

    private static List<String> blocks(String readme, String language) {
        List<String> found = new ArrayList<>();
        Matcher m = Pattern.compile("(?ms)^```" + language + "\n(.*?)^```$").matcher(readme);
        while (m.find()) {
            found.add(m.group(1));
        }
        return found;
    }

    /** The blocks of Java, as one program that wants the answers behind the calls. */
    private static void calls(String readme, Path room) throws Exception {
        Set<String> called = new TreeSet<>();
        StringBuilder program = new StringBuilder("public final class ReadmeRun extends Checks {\n"
            + "public static void main(String[] args) {\npromise(0, \"README.md\");\n");
        for (String line : String.join("", blocks(readme, "java")).split("\n")) {
            Matcher m = CALL.matcher(line);
            if (m.matches()) {
                called.add(m.group(4));
                String answer = m.group(2) == null ? m.group(3) : m.group(2);
                program.append(m.group(2) == null ? "" : m.group(1) + m.group(3) + ";\n");
                program.append("due(\"" + m.group(3) + "\", " + answer + ", " + m.group(5) + "L);\n");
            } else {
                need(line.equals(FIRST_LINE), "no call with an answer: " + line);
                program.append(line).append('\n');
            }
        }
        program.append("report(\"README.md\");\n}\n}\n");
        need(called.equals(face()), "the face is " + face() + ", the calls are " + called);
        Path file = Files.writeString(room.resolve("ReadmeRun.java"), program);
        String path = System.getProperty("java.class.path");
        boolean compiles = Shell.run(room, "javac", "-cp", path, "-d", room.toString(), file.toString()) == 0;
        need(compiles, "the calls do not compile");
        if (compiles) {
            int exit = Shell.run(room, "java", "-cp", path + File.pathSeparator + room, "ReadmeRun");
            need(exit == 0, "the answers are others");
        }
        System.out.print(Shell.told(room));
    }

    private static Set<String> face() {
        Set<String> names = new TreeSet<>();
        for (Method m : CauseBook.class.getDeclaredMethods()) {
            if (Modifier.isPublic(m.getModifiers())) {
                names.add(m.getName());
            }
        }
        return names;
    }

    /** The list of tests has each of src/test/java, and no other one. */
    private static void tests(String readme) throws Exception {
        Set<String> listed = new TreeSet<>();
        Matcher m = Pattern.compile("`(\\w+Test)`").matcher(readme.substring(readme.indexOf("\n- ")));
        while (m.find()) {
            listed.add(m.group(1));
        }
        Set<String> there = new TreeSet<>();
        try (Stream<Path> files = Files.list(Path.of("src/test/java"))) {
            files.map(file -> file.getFileName().toString()).filter(name -> name.endsWith("Test.java"))
                .forEach(name -> there.add(name.substring(0, name.length() - 5)));
        }
        need(listed.equals(there), "the tests are " + there + ", told are " + listed);
    }

    /** The commands: .ci/run itself (CiTest looks at what it does), and those that run one test. */
    private static void commands(String readme, Path room) throws Exception {
        List<String> commands = blocks(readme, "sh");
        need(commands.size() == 2 && commands.get(0).equals(".ci/run\n"), "the commands are " + commands);
        need(Files.isExecutable(Path.of(".ci/run")), ".ci/run can be run");
        if (commands.size() == 2) {
            Path checkout = Files.createDirectory(room.resolve("checkout"));
            Shell.copy(Path.of("src"), checkout.resolve("src"));
            need(Shell.run(checkout, "sh", "-e", "-c", commands.get(1)) == 0, Shell.told(checkout));
        }
    }
}
