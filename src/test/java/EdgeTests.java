import java.io.IOException;
import java.lang.reflect.InvocationTargetException;
import java.lang.reflect.Method;
import java.lang.reflect.Modifier;
import java.nio.file.Files;
import java.nio.file.Path;
import java.util.ArrayList;
import java.util.Arrays;
import java.util.List;
import java.util.Map;
import java.util.Set;
import java.util.TreeMap;
import java.util.regex.Matcher;
import java.util.regex.Pattern;
import java.util.stream.Collectors;
import java.util.stream.Stream;

/**
 * The boundary cases sentence by sentence, as src/test/edges/*.txt tell them (README.md has the form): each sentence
 * is quoted from DOC.md, and behind it stand calls on a new object with the answers that are due. Each of these calls
 * is tried on twins, too, which must show that it changed nothing but what it may change.
 */
public final class EdgeTests {
    private static final Path EDGES = Path.of("src/test/edges"), DOCUMENT = Path.of("../shared/DOC.md");
    private static final Path README = Path.of("README.md");
    private static int wrong = 0;
    private static int asked = 0;
    private static String standing = "";

    public static void main(String[] args) throws IOException {
        Quotes quotes = new Quotes(Files.readString(DOCUMENT));
        try (Stream<Path> files = Files.list(EDGES)) {
            for (Path file : files.sorted().collect(Collectors.toList())) {
                follow(file, Files.readAllLines(file), quotes);
            }
        }
        follow(README, shown(Files.readString(README)), quotes);
        standing = DOCUMENT.toString();
        quotes.reportUnquoted();
        System.out.println(wrong == 0 ? asked + " answers to " + quotes.quoted + " sentences are as due"
            : wrong + " answers are not as due");
        if (wrong != 0) {
            System.exit(1);
        }
    }

    /** The lines of README.md, those emptied that are no edges that it shows. */
    private static List<String> shown(String readme) {
        List<String> lines = new ArrayList<>();
        boolean within = false;
        for (String line : readme.split("\n")) {
            within = within ? !line.equals("```") : line.equals("```text");
            lines.add(within && !line.equals("```text") ? line : "");
        }
        if (lines.stream().allMatch(String::isEmpty)) {
            complain("README.md shows no edges");
        }
        return lines;
    }

    private static void follow(Path file, List<String> lines, Quotes quotes) {
        String section = "";
        Session session = new Session();
        for (int n = 0; n < lines.size(); n++) {
            String line = lines.get(n).trim();
            standing = file + ":" + (n + 1);
            if (line.startsWith("## ")) {
                section = line.substring(3);
            } else if (line.startsWith("> ")) {
                quotes.quote(section, line.substring(2));
                session = new Session();
            } else if (line.equals("new")) {
                session = new Session();
            } else if (!line.isEmpty() && !line.startsWith("# ")) {
                session.follow(line);
            }
        }
    }

    private static void complain(String what) {
        wrong++;
        System.out.println(standing + ": " + what);
    }

    private static void due(String what, long got, long want) {
        asked++;
        if (got != want) {
            complain(what + " answered " + got + ", due is " + want);
        }
    }

    private static IllegalArgumentException unreadable(String what) {
        return new IllegalArgumentException(standing + ": " + what);
    }

    /** The document's sections, and which parts of them have been quoted. */
    private static final class Quotes {
        private final Map<String, String> sections = new TreeMap<>();
        private final Map<String, boolean[]> covered = new TreeMap<>();
        int quoted = 0;

        Quotes(String document) {
            for (String part : document.split("(?m)^## ")) {
                String name = part.split("[:\n]", 2)[0];
                if (name.equals("Terms") || name.startsWith("Promise ")) {
                    String text = promising(part.substring(part.indexOf('\n')));
                    sections.put(name, text);
                    covered.put(name, new boolean[text.length()]);
                }
            }
        }

        /** Signatures, names of parts and marks of the page promise nothing. */
        private static String promising(String text) {
            return text.replaceAll("(?m)^`[^`\n]*`: ", "").replaceAll("(?m)^```.*$", "").replaceAll("======== \\d", "")
                .replaceAll("Ahead of the calls .* the interface says: ---- \\d ", "").replaceAll("\\s+", " ")
                .replace("rows, texts, towns.", "").replace("what the clock does (aside).", "")
                .replace("elections, gates, other clocks.", "").replace("chances, lots.", "")
                .replace(" deeds.", "").replace("what is told.", "");
        }

        void quote(String section, String sentence) {
            quoted++;
            String text = sections.get(section);
            int at = text == null ? -1 : text.indexOf(sentence);
            if (at < 0) {
                complain("'" + section + "' does not say '" + sentence + "'");
            }
            for (; at >= 0; at = text.indexOf(sentence, at + 1)) {
                Arrays.fill(covered.get(section), at, at + sentence.length(), true);
            }
        }

        void reportUnquoted() {
            due("how many sections", sections.size(), 48);
            sections.forEach((name, text) -> {
                StringBuilder rest = new StringBuilder();
                for (int i = 0; i < text.length(); i++) {
                    rest.append(covered.get(name)[i] ? '_' : text.charAt(i));
                }
                if (Pattern.compile("[A-Za-z0-9]").matcher(rest.toString().replace('_', ' ')).find()) {
                    complain("no edge quotes in '" + name + "': " + rest.toString().replaceAll("_+", "_"));
                }
            });
        }
    }

    /** A call with its numbers. */
    private static final class Call {
        private static final Map<String, Method> METHODS = Stream.of(StrangersWind.class.getDeclaredMethods())
            .filter(m -> Modifier.isPublic(m.getModifiers())).collect(Collectors.toMap(Method::getName, m -> m));
        private static final Map<String, Integer> NAMES = Map.of("MIN", Integer.MIN_VALUE, "MAX", Integer.MAX_VALUE,
            "NONE", -9);
        private static final Set<String> TELL_ASIDE = Set.of("lay", "at", "mean", "stranger", "hour", "lasts", "wound",
            "most", "ways", "goes", "behind", "fits", "sure", "ask", "came", "meets");
        private static final Set<String> TELL_PARTS = Set.of("ways", "fits", "odds", "mid");
        private static final Set<String> CHANGE = Set.of("row", "lay", "tear", "copy", "text", "put", "town", "gate",
            "let", "leave", "hour", "frost", "undo", "keep", "on", "order", "bread", "lots");

        final String name;
        final Object[] numbers;

        Call(String name, Integer... numbers) {
            this.name = name;
            this.numbers = numbers;
        }

        static Call of(String written) {
            Matcher m = Pattern.compile("(\\w+)\\((.*)\\)").matcher(written);
            if (!m.matches() || !METHODS.containsKey(m.group(1))) {
                throw unreadable("no call: " + written);
            }
            return new Call(m.group(1), numbers(m.group(2).replace(',', ' ')));
        }

        static Integer[] numbers(String written) {
            return Stream.of(written.split(" +")).filter(s -> !s.isEmpty()).map(Call::number).toArray(Integer[]::new);
        }

        static int number(String written) {
            return NAMES.containsKey(written) ? NAMES.get(written) : Integer.parseInt(written);
        }

        long on(StrangersWind x) {
            try {
                return ((Number) METHODS.get(name).invoke(x, numbers)).longValue();
            } catch (InvocationTargetException thrown) {
                complain(this + " threw " + thrown.getCause());
                return Long.MIN_VALUE;
            } catch (IllegalAccessException | IllegalArgumentException other) {
                throw unreadable("no call: " + this);
            }
        }

        boolean tellsAside() {
            return TELL_ASIDE.contains(name);
        }

        /** Twins were told something else. */
        boolean isTold() {
            return Set.of("asked", "upper", "lower").contains(name);
        }

        boolean tellsParts() {
            return TELL_PARTS.contains(name);
        }

        boolean changes() {
            return CHANGE.contains(name);
        }

        @Override
        public String toString() {
            return name + Stream.of(numbers).map(String::valueOf).collect(Collectors.joining(", ", "(", ")"));
        }
    }

    /** An object for 512 calls; no more are promised. */
    private static final class Subject {
        private final StrangersWind x = new StrangersWind();
        private int used = 0;

        long make(Call call) {
            used++;
            if (used > 512) {
                throw unreadable("more than 512 calls of one object");
            }
            return call.on(x);
        }

        long make(String name, Integer... numbers) {
            return make(new Call(name, numbers));
        }

        /** Something else than 0 and 1 stands in what is told, so that it would be seen if it went. */
        void tellSomething() {
            if (make("count", 0) > 0) {
                make("mid", 7);
                make("stranger", 0, 1);
            }
        }

        List<Long> findings() {
            List<Long> all = new ArrayList<>();
            all.add(make("finding"));
            for (int f = 1; f <= 5; f++) {
                all.add(make("findings", f));
            }
            return all;
        }

        /** All that can be seen of the state: as it is, with DEEDS undone one by one, and gone on from kept TOWNS. */
        List<Long> state() {
            List<Long> all = new ArrayList<>();
            all.add(make("digest"));
            for (int n = (int) make("count", 4) - 1; n >= 0; n--) {
                all.add(make("undo", n));
                all.add(make("digest"));
            }
            for (int k = 0; k < 3; k++) {
                all.add(make("on", k));
                all.add(make("digest"));
                all.add(make("undo", 0));
                all.add(make("digest"));
            }
            return all;
        }
    }

    /** What an edge does with one object, line by line. */
    private static final class Session {
        private static final List<String> FINDINGS = List.of("", "NOTHING", "BEYOND", "UNLIKE", "NOUGHT", "SIZE");
        private static final Map<String, Long> REFUSALS = Map.of("BAD", -1L, "FULL", -2L, "STATE", -4L);
        private static final long FINDING = -3, NONE = -9;

        private final Subject subject = new Subject();
        private final List<Call> done = new ArrayList<>();

        void follow(String line) {
            Matcher m;
            if ((m = form("(\\d+) times (.*)", line)) != null) {
                for (int k = Integer.parseInt(m.group(1)); k > 0; k--) {
                    succeed(Call.of(m.group(2)));
                }
            } else if ((m = form("town \"(.*)\"", line)) != null) {
                write(3, m.group(1));
                succeed(new Call("town", 3));
            } else if ((m = form("text (\\d) \"(.*)\"", line)) != null) {
                write(Integer.parseInt(m.group(1)), m.group(2));
            } else if ((m = form("fault \"(.*)\" = (\\w+)", line)) != null) {
                expectFault(m.group(1), m.group(2));
            } else if ((m = form("bytes (\\d+) of \"(.*)\": (\\w+), but (.*)", line)) != null) {
                expectFaults(Integer.parseInt(m.group(1)), m.group(2), m.group(3), m.group(4));
            } else if ((m = form("row (\\d):(.*)", line)) != null) {
                fill(Integer.parseInt(m.group(1)), Call.numbers(m.group(2)));
            } else if ((m = form("holds (\\d):(.*)", line)) != null) {
                expectRow(Integer.parseInt(m.group(1)), Call.numbers(m.group(2)));
            } else if ((m = form("counts: (.*)", line)) != null) {
                expectAnswers("count(*)", m.group(1).split(" +"));
            } else if ((m = form("asks (.*): (.*)", line)) != null) {
                expectAsides(m.group(1), Call.numbers(m.group(2)));
            } else if ((m = form("answers (.*): (.*)", line)) != null) {
                expectAnswers(m.group(1), m.group(2).split(" +"));
            } else if ((m = form("range (.*): (\\w+) \\.\\. (\\w+), below (\\w+), above (\\w+)", line)) != null) {
                expectRange(m.group(1), Call.number(m.group(2)), Call.number(m.group(3)), m.group(4), m.group(5));
            } else if ((m = form("(.*\\))( = (\\S+?))?(, asked (\\S+?))?(, told (\\d+)/(\\d+))?", line)) != null) {
                expect(m);
            } else {
                throw unreadable("no line of an edge: " + line);
            }
        }

        private static Matcher form(String pattern, String line) {
            Matcher m = Pattern.compile(pattern).matcher(line);
            return m.matches() ? m : null;
        }

        private void succeed(Call call) {
            long answer = subject.make(call);
            done.add(call);
            if (answer < 0) {
                complain(call + " answered " + answer + ", but it is not to be refused");
            }
        }

        private void write(int t, String text) {
            succeed(new Call("text", t, text.length()));
            for (int i = 0; i < text.length(); i++) {
                if (text.charAt(i) != ' ') {
                    succeed(new Call("put", t, i, (int) text.charAt(i)));
                }
            }
        }

        private void fill(int r, Integer[] values) {
            succeed(new Call("row", r, values.length));
            for (int i = 0; i < values.length; i++) {
                if (values[i] != 0) {
                    succeed(new Call("lay", r, i, values[i]));
                }
            }
        }

        private void expect(Matcher m) {
            Call call = Call.of(m.group(1));
            if (m.group(3) == null) {
                succeed(call);
            } else {
                expectAnswer(call, m.group(3));
            }
            if (m.group(5) != null) {
                due(call + ": asked()", subject.make("asked"), Call.number(m.group(5)));
            }
            if (m.group(7) != null) {
                due(call + ": upper()", subject.make("upper"), Long.parseLong(m.group(7)));
                due(call + ": lower()", subject.make("lower"), Long.parseLong(m.group(8)));
            }
        }

        private static boolean isRefusal(String want) {
            return REFUSALS.containsKey(want) || FINDINGS.contains(want);
        }

        private static long answerOf(String want) {
            return REFUSALS.containsKey(want) ? REFUSALS.get(want) : FINDINGS.contains(want) ? FINDING
                : want.equals("NONE") ? NONE : Long.parseLong(want);
        }

        private void expectAnswer(Call call, String want) {
            if (!call.isTold()) {
                tryOnTwin(call, want);
            }
            due(call.toString(), subject.make(call), answerOf(want));
            done.add(call);
        }

        private Subject twin() {
            Subject twin = new Subject();
            for (Call call : done) {
                twin.make(call);
            }
            twin.tellSomething();
            return twin;
        }

        /** Of two twins one makes the call: where they differ afterwards, the call may make a difference. */
        private void tryOnTwin(Call call, String want) {
            Subject with = twin();
            Subject without = twin();
            due(call + " of a twin", with.make(call), answerOf(want));
            boolean refused = isRefusal(want);
            boolean none = answerOf(want) == NONE;
            if (refused || none || !call.tellsAside()) {
                due(call + ", then asked()", with.make("asked"), without.make("asked"));
            }
            if (refused || !call.tellsParts()) {
                due(call + ", then upper()", with.make("upper"), without.make("upper"));
                due(call + ", then lower()", with.make("lower"), without.make("lower"));
            }
            List<Long> findings = without.findings();
            if (refused && FINDINGS.contains(want)) {
                int f = FINDINGS.indexOf(want);
                findings.set(0, (long) f);
                findings.set(f, findings.get(f) + 1);
            }
            expectSame(call + ", then finding(), findings(1) to findings(5)", with.findings(), findings);
            if (refused || none || !call.changes()) {
                expectSame(call + ", then the state", with.state(), without.state());
            }
        }

        private static void expectSame(String what, List<Long> got, List<Long> want) {
            asked++;
            if (!got.equals(want)) {
                complain(what + ": " + got + ", due is " + want);
            }
        }

        private void expectFault(String text, String want) {
            write(2, text);
            expectAnswer(new Call("fault", 2), want);
            if (want.equals("NONE")) {
                succeed(new Call("town", 2));
            } else {
                expectAnswer(new Call("town", 2), "STATE");
            }
        }

        /** All bytes come to one place of a TEXT: the FAULT is the same, but for those that are told. */
        private static void expectFaults(int place, String text, String fault, String told) {
            String[] faults = new String[256];
            Arrays.fill(faults, fault);
            Matcher but = Pattern.compile("\"([^\"]*)\" (\\w+)").matcher(told);
            while (but.find()) {
                but.group(1).chars().forEach(c -> faults[c] = but.group(2));
            }
            for (int b = 0; b < faults.length; b++) {
                Session other = new Session();
                other.write(0, text);
                other.succeed(new Call("put", 0, place, b));
                due("FAULT of '" + text + "' with " + b + " at " + place, other.subject.make("fault", 0),
                    answerOf(faults[b]));
            }
        }

        private void expectRow(int r, Integer[] values) {
            for (int i = 0; i < values.length; i++) {
                expectAside(new Call("at", r, i), values[i]);
            }
            expectAnswer(new Call("at", r, values.length), "BEYOND");
        }

        private void expectAside(Call call, int value) {
            succeed(call);
            due(call + ": asked()", subject.make("asked"), value);
        }

        private void expectAsides(String pattern, Integer[] values) {
            for (int i = 0; i < values.length; i++) {
                expectAside(Call.of(pattern.replace("*", String.valueOf(i))), values[i]);
            }
        }

        private void expectAnswers(String pattern, String[] values) {
            for (int i = 0; i < values.length; i++) {
                expectAnswer(Call.of(pattern.replace("*", String.valueOf(i))), values[i]);
            }
        }

        /** From low to high nothing is refused; on either side all is, the least and the greatest int, too. */
        private void expectRange(String pattern, int low, int high, String below, String above) {
            for (int n : new int[] {low, high}) {
                Call call = Call.of(pattern.replace("*", String.valueOf(n)));
                long answer = twin().make(call);
                due(call + " answered " + answer + ": whether it is refused", answer < 0 && answer != NONE ? 1 : 0, 0);
            }
            expectOutside(pattern, Integer.MIN_VALUE, below);
            expectOutside(pattern, low - 1, below);
            if (high < Integer.MAX_VALUE) {
                expectOutside(pattern, high + 1, above);
                expectOutside(pattern, Integer.MAX_VALUE, above);
            }
        }

        private void expectOutside(String pattern, int n, String want) {
            tryOnTwin(Call.of(pattern.replace("*", String.valueOf(n))), want);
        }
    }
}
