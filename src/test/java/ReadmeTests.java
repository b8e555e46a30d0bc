import java.io.IOException;
import java.lang.management.ManagementFactory;
import java.lang.reflect.Method;
import java.lang.reflect.Modifier;
import java.net.URL;
import java.net.URLClassLoader;
import java.nio.file.Files;
import java.nio.file.Path;
import java.util.ArrayList;
import java.util.List;
import java.util.Set;
import java.util.TreeSet;
import java.util.regex.Matcher;
import java.util.regex.Pattern;
import java.util.stream.Collectors;
import java.util.stream.Stream;
import javax.tools.JavaCompiler;
import javax.tools.ToolProvider;

/** What README.md shows is so: the class's use, call by call as it stands there, and the tests that it lists. */
public final class ReadmeTests {
    private static final Pattern ANSWERED = Pattern.compile("(\\S.*\\));\\s*// (-?\\d+|[A-Z]+)\\b.*");
    private static final Set<String> CONSTANTS = Set.of("BAD", "FULL", "FINDING", "STATE", "SPENT", "NONE");
    private static final int MOST_CALLS = 512;
    private static int wrong = 0;
    private static int answers = 0;

    public static void main(String[] args) throws Exception {
        String readme = Files.readString(Path.of("README.md"));
        String use = blocks(readme, "java");
        showsEveryCall(use);
        run(checking(use));
        listsEveryTest(readme);
        makesNoObjects();
        System.out.println(wrong == 0 ? answers + " answers in README.md are so" : wrong + " things in README.md are not so");
        if (wrong != 0) {
            System.exit(1);
        }
    }

    /** Called by what README.md shows, too, which is loaded beside this class. */
    public static void due(String what, long got, long want) {
        answers++;
        if (got != want) {
            complain(what + " answered " + got + ", README.md shows " + want);
        }
    }

    private static void complain(String what) {
        wrong++;
        System.out.println(what);
    }

    private static String blocks(String readme, String language) {
        StringBuilder all = new StringBuilder();
        Matcher block = Pattern.compile("(?ms)^```" + language + "\n(.*?)^```$").matcher(readme);
        while (block.find()) {
            all.append(block.group(1));
        }
        return all.toString();
    }

    private static void showsEveryCall(String use) {
        for (Method m : StrangersWind.class.getDeclaredMethods()) {
            if (Modifier.isPublic(m.getModifiers()) && !use.contains("x." + m.getName() + "(")) {
                complain("README.md does not show " + m.getName() + "()");
            }
        }
        Matcher calls = Pattern.compile("\\bx\\.\\w+\\(").matcher(use);
        if (calls.results().count() + "w123 s403 t312 b201".length() > MOST_CALLS) {
            complain("README.md shows more calls of one object than are promised");
        }
    }

    /** The same statements, each answer that stands behind one being looked at. */
    private static String checking(String use) {
        StringBuilder source = new StringBuilder("public final class ReadmeUse {\n    public static void run() {\n");
        for (String line : use.split("\n")) {
            Matcher answered = ANSWERED.matcher(line);
            if (answered.matches()) {
                String answer = answered.group(2);
                String want = CONSTANTS.contains(answer) ? "StrangersWind." + answer : answer + "L";
                source.append("ReadmeTests.due(\"").append(answered.group(1).replace("\"", "\\\"")).append("\", ")
                    .append(answered.group(1)).append(", ").append(want).append(");\n");
            } else {
                if (line.startsWith("x.")) {
                    complain("README.md shows no answer: " + line);
                }
                source.append(line).append("\n");
            }
        }
        return source.append("    }\n}\n").toString();
    }

    private static void run(String source) throws Exception {
        JavaCompiler compiler = ToolProvider.getSystemJavaCompiler();
        if (compiler == null) {
            complain("there is no compiler for what README.md shows");
            return;
        }
        Path directory = Files.createTempDirectory("readme");
        try {
            Path file = Files.writeString(directory.resolve("ReadmeUse.java"), source);
            String there = System.getProperty("java.class.path");
            if (compiler.run(null, null, null, "-cp", there, "-d", directory.toString(), file.toString()) != 0) {
                complain("what README.md shows does not compile");
                return;
            }
            try (URLClassLoader loader = new URLClassLoader(new URL[] {directory.toUri().toURL()},
                    ReadmeTests.class.getClassLoader())) {
                loader.loadClass("ReadmeUse").getMethod("run").invoke(null);
            }
        } finally {
            remove(directory);
        }
    }

    private static void remove(Path directory) throws IOException {
        List<Path> files;
        try (Stream<Path> all = Files.list(directory)) {
            files = all.collect(Collectors.toCollection(ArrayList::new));
        }
        files.add(directory);
        for (Path file : files) {
            Files.delete(file);
        }
    }

    private static void listsEveryTest(String readme) throws IOException {
        Set<String> listed = new TreeSet<>();
        Matcher items = Pattern.compile("(?m)^- `src/test/java/(\\w+)\\.java`").matcher(readme);
        while (items.find()) {
            listed.add(items.group(1) + ".java");
        }
        try (Stream<Path> files = Files.list(Path.of("src/test/java"))) {
            Set<String> there = files.map(f -> f.getFileName().toString()).collect(Collectors.toCollection(TreeSet::new));
            if (!listed.equals(there)) {
                complain("README.md lists the tests " + listed + ", there are " + there);
            }
        }
    }

    /** The bytes that this thread took are as many behind all calls as behind none. */
    private static void makesNoObjects() {
        if (!(ManagementFactory.getThreadMXBean() instanceof com.sun.management.ThreadMXBean threads)) {
            complain("what a call makes can't be counted");
            return;
        }
        long thread = Thread.currentThread().getId();
        StrangersWind x = new StrangersWind();
        String town = "w490 s403 t312 b201 p915 p804 m716";
        x.text(0, town.length());
        for (int i = 0; i < town.length(); i++) {
            x.put(0, i, town.charAt(i));
        }
        callAll(x);
        threads.getThreadAllocatedBytes(thread);
        long before = threads.getThreadAllocatedBytes(thread);
        long between = threads.getThreadAllocatedBytes(thread);
        callAll(x);
        long behind = threads.getThreadAllocatedBytes(thread);
        due("bytes that the calls take", behind - between, between - before);
    }

    private static void callAll(StrangersWind x) {
        x.fault(0);
        x.town(0);
        x.gate(0);
        x.stranger(3, 5);
        x.mark(3, 3);
        x.keep(0);
        x.let(3);
        x.frost(2);
        x.hour();
        x.leave(3);
        x.undo(1);
        x.on(0);
        x.lots(5, 7);
        x.on(0);
        lookAhead(x);
        x.row(2, 5);
        x.lay(2, 1, 5);
        x.at(2, 1);
        x.copy(2, 1, 2, 0, 4);
        x.mean(2);
        x.tear(2);
        x.digest();
        x.count(7);
        x.row(2, -1);
        x.findings(x.finding());
        x.asked();
        x.upper();
        x.lower();
    }

    private static void lookAhead(StrangersWind x) {
        x.lasts();
        x.most();
        x.order(1);
        x.wound(1);
        x.ways(5, 5);
        x.bread(5, 5, 1);
        x.behind(1);
        x.goes(5);
        x.fits(5);
        x.sure(5);
        x.ask(5);
        x.came(5);
        x.duel(4);
        x.shut(0);
        x.meets(3);
        x.row(3, 2);
        x.check(3);
        x.odds(3, 5);
        x.mid(5);
    }
}
