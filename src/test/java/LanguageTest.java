import java.lang.reflect.Constructor;
import java.lang.reflect.Field;
import java.lang.reflect.Method;
import java.lang.reflect.Modifier;
import java.nio.file.Files;
import java.nio.file.Path;
import java.util.HashSet;
import java.util.Map;
import java.util.Set;
import java.util.TreeMap;
import java.util.TreeSet;
import java.util.regex.Matcher;
import java.util.regex.Pattern;

/** The face is the document's, and the source keeps to those rules of LANGUAGE.md that a look can tell. */
public final class LanguageTest {
    private static final String[] FACE = {
        "int terms(int,int)", "int object(int)", "int link(int,int,int)", "int cut(int)",
        "int rule(int,int,int,int,int)", "int drop(int)", "int cause(int,int,int)", "int sign(int,int)",
        "int reduce(int)", "int book(int)", "int see(int)", "int note(int,int)", "int clear()",
        "int window(int,int)", "int undo()", "int image(int)", "int back(int)", "int time(int,int,int)",
        "int spread(int,int)", "int code(int)", "int distance(int,int,int)", "int nearest(int)",
        "int joint(int,int)", "long odds(int,int)", "int likeliest(int)", "int ranked(int)", "int hold(int)",
        "int minimal(int,int)", "int weakest(int)", "int ordered(int,int)", "int sure(int)",
        "int busiest(int,int)", "int groups(int)", "int group(int)", "int reduced(int)", "int ask(int)",
        "int cuts(int,int,int)", "int explains(int,int)", "int best(int,int)", "int cover()",
        "int ofCause(int,int)", "int ofSign(int,int)", "int ofObject(int,int)", "int ofRule(int,int)",
        "int count(int)", "int status()",
    };
    private static final String[] BANNED_WORDS = {
        "throw", "throws", "try", "catch", "synchronized", "assert", "volatile", "native", "strictfp",
        "protected", "package", "Thread", "Random", "System.out", "System.err", "nanoTime", "currentTimeMillis",
        "Object", "Exception", "HashMap", "Map", "Set", "Optional", "Stream", "instanceof", "equals", "hashCode",
        "toString", "var", "goto",
    };
    private static final Set<String> CALLS_OF_LIBRARY = Set.of("Integer.bitCount", "Math.max", "Math.min", "Math.abs", "System.arraycopy", "Arrays.fill");
    private static int wrong = 0;

    public static void main(String[] args) throws Exception {
        face();
        String source = Files.readString(Path.of("src/main/java/CauseBook.java"));
        String code = withoutComments(source);
        for (int i = 0; i < source.length(); i++) {
            need(source.charAt(i) < 128, "a sign beyond 127 in the source");
        }
        for (String word : BANNED_WORDS) {
            need(!Pattern.compile("(?<![\\w.])" + Pattern.quote(word) + "\\b").matcher(code).find(), "the word " + word);
        }
        need(!code.contains("->") && !code.contains("::"), "a lambda or a method reference");
        need(!Pattern.compile("\\bstatic\\s*\\{").matcher(code).find(), "a static initialiser block");
        imports(code);
        library(code);
        names(code);
        methodLengths(code);
        callDepths(code);
        documentsFace();
        System.out.println(wrong == 0 ? "LanguageTest: all is kept" : "LanguageTest: " + wrong + " breaches");
        if (wrong != 0) {
            System.exit(1);
        }
    }

    private static void need(boolean holds, String what) {
        if (!holds) {
            wrong++;
            System.out.println("LanguageTest: breach: " + what);
        }
    }

    private static void face() {
        Class<?> face = CauseBook.class;
        need(face.getModifiers() == (Modifier.PUBLIC | Modifier.FINAL), "the class is public final");
        Set<String> due = new TreeSet<>(Set.of(FACE));
        Set<String> found = new TreeSet<>();
        Set<String> publicNames = new HashSet<>();
        for (Method m : face.getDeclaredMethods()) {
            if (Modifier.isPrivate(m.getModifiers())) {
                continue;
            }
            need(m.getModifiers() == Modifier.PUBLIC, m.getName() + " is public alone");
            StringBuilder row = new StringBuilder(m.getReturnType() + " " + m.getName() + "(");
            for (int i = 0; i < m.getParameterCount(); i++) {
                row.append(i == 0 ? "" : ",").append(m.getParameterTypes()[i]);
            }
            found.add(row + ")");
            publicNames.add(m.getName());
        }
        need(due.equals(found), "the methods are " + found);
        for (Method m : face.getDeclaredMethods()) {
            need(!Modifier.isPrivate(m.getModifiers()) || !publicNames.contains(m.getName()), "private " + m.getName());
        }
        Constructor<?>[] made = face.getDeclaredConstructors();
        need(made.length == 1 && made[0].getModifiers() == Modifier.PUBLIC && made[0].getParameterCount() == 0,
            "one public constructor");
        for (Field f : face.getDeclaredFields()) {
            boolean none = f.getName().equals("NONE") && f.getType() == int.class
                && f.getModifiers() == (Modifier.PUBLIC | Modifier.STATIC | Modifier.FINAL);
            need(none || Modifier.isPrivate(f.getModifiers()), "the field " + f.getName());
            need(Modifier.isFinal(f.getModifiers()) || !Modifier.isStatic(f.getModifiers()), "static " + f.getName());
        }
        need(CauseBook.NONE == -1, "NONE is -1");
        Class<?>[] inside = face.getDeclaredClasses();
        need(inside.length <= 12, "at most twelve classes");
        for (Class<?> c : inside) {
            need(Modifier.isStatic(c.getModifiers()) && !Modifier.isPublic(c.getModifiers()), c + " is static");
            int fields = 0;
            for (Field f : c.getDeclaredFields()) {
                fields += Modifier.isStatic(f.getModifiers()) ? 0 : 1;
                need(Modifier.isFinal(f.getModifiers()) || !Modifier.isStatic(f.getModifiers()), c + "." + f.getName());
            }
            need(fields <= 20, c + " has " + fields + " fields");
            for (Method m : c.getDeclaredMethods()) {
                need(m.getParameterCount() <= 7, m + " has too many parameters");
                need(!publicNames.contains(m.getName()), m + " bears the name of a public method");
            }
        }
    }

    private static String withoutComments(String source) {
        return source.replaceAll("(?s)/\\*.*?\\*/", " ").replaceAll("//[^\n]*", " ");
    }

    private static void imports(String code) {
        Matcher m = Pattern.compile("import\\s+([\\w.*]+)\\s*;").matcher(code);
        while (m.find()) {
            need(m.group(1).equals("java.util.Arrays"), "import " + m.group(1));
        }
    }

    private static void library(String code) {
        Matcher m = Pattern.compile("\\b(Integer|Long|Math|System|Arrays|String|List)\\s*\\.\\s*(\\w+)").matcher(code);
        while (m.find()) {
            need(CALLS_OF_LIBRARY.contains(m.group(1) + "." + m.group(2)) || m.group().equals("Arrays"), m.group());
        }
    }

    private static void names(String code) {
        need(!Pattern.compile("\\bwhile\\s*\\(\\s*true").matcher(code).find(), "a loop without an end");
        need(!Pattern.compile("for\\s*\\(\\s*;\\s*;").matcher(code).find(), "a loop without an end");
        need(!Pattern.compile("\\bdouble\\b|\\bfloat\\b").matcher(code).find(), "a double or a float");
    }

    private static void methodLengths(String code) {
        String[] lines = code.split("\n");
        int begun = -1;
        String indent = "";
        for (int i = 0; i < lines.length; i++) {
            Matcher m = Pattern.compile("^( {4}| {8})(public|private) [^;=]*\\{$").matcher(lines[i]);
            if (m.find() && !lines[i].contains(" class ")) {
                begun = i;
                indent = m.group(1);
            }
            if (begun >= 0 && lines[i].equals(indent + "}")) {
                need(i - begun <= 60, "a method of " + (i - begun) + " lines: " + lines[begun].trim());
                begun = -1;
            }
        }
    }

    /** Calls go at most eight deep, and none comes back to itself; methods are told by their names alone. */
    private static void callDepths(String code) {
        Map<String, Set<String>> callees = new TreeMap<>();
        Matcher m = Pattern.compile("(?m)^( {4}| {8})(?:public|private) (?:static )?[\\w\\[\\]]+ (\\w+)\\([^)]*\\) \\{$").matcher(code);
        Map<String, String> bodies = new TreeMap<>();
        while (m.find()) {
            String body = code.substring(m.end(), code.indexOf("\n" + m.group(1) + "}", m.end()));
            need(bodies.put(m.group(2), body) == null, "two methods have the name " + m.group(2));
        }
        need(bodies.size() > FACE.length, "the methods are found");
        for (Map.Entry<String, String> method : bodies.entrySet()) {
            Set<String> called = new TreeSet<>();
            Matcher call = Pattern.compile("(?<!new )\\b(\\w+)\\(").matcher(method.getValue());
            while (call.find()) {
                if (bodies.containsKey(call.group(1))) {
                    called.add(call.group(1));
                }
            }
            callees.put(method.getKey(), called);
        }
        for (String name : bodies.keySet()) {
            int depth = depth(name, callees, 1);
            need(depth <= 8, name + " goes " + depth + " calls deep");
        }
    }

    /** Of a recursion more than eight, for it ends here alone. */
    private static int depth(String name, Map<String, Set<String>> callees, int open) {
        int deepest = open;
        for (String callee : callees.get(name)) {
            deepest = open > 8 ? deepest : Math.max(deepest, depth(callee, callees, open + 1));
        }
        return deepest;
    }

    /** FACE is what the document says. */
    private static void documentsFace() throws Exception {
        Path file = Path.of("../shared/DOC.md");
        if (!Files.exists(file)) {
            System.out.println("LanguageTest: no document beside the checkout, the face is not compared with it");
            return;
        }
        String document = Files.readString(file);
        Set<String> told = new TreeSet<>();
        Matcher m = Pattern.compile("(?m)^    public (int|long) (\\w+)\\(([^)]*)\\);$").matcher(document);
        while (m.find()) {
            told.add(m.group(1) + " " + m.group(2) + "(" + m.group(3).replaceAll(" \\w+(, )?", ",").replaceAll(",$", "") + ")");
        }
        need(told.equals(new TreeSet<>(Set.of(FACE))), "the document's face is " + told);
    }
}
