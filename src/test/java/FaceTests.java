import java.io.IOException;
import java.lang.reflect.Constructor;
import java.lang.reflect.Field;
import java.lang.reflect.Method;
import java.lang.reflect.Modifier;
import java.nio.file.Files;
import java.nio.file.Path;
import java.util.ArrayList;
import java.util.Arrays;
import java.util.List;
import java.util.Set;
import java.util.TreeSet;
import java.util.regex.Matcher;
import java.util.regex.Pattern;
import java.util.stream.Collectors;

/** The face is the document's and no more; the source keeps to those rules of LANGUAGE.md that can be seen simply. */
public final class FaceTests {
    private static int wrong = 0;

    private static void due(String what, boolean holds) {
        if (!holds) {
            wrong++;
            System.out.println("not as due: " + what);
        }
    }

    public static void main(String[] args) throws IOException {
        face();
        constants();
        members();
        source();
        System.out.println(wrong == 0 ? "the face is as due" : wrong + " things are not as due");
        if (wrong != 0) {
            System.exit(1);
        }
    }

    private static void face() throws IOException {
        Set<String> wanted = new TreeSet<>();
        Matcher lines = Pattern.compile("(?m)^ {4}public (int|long) (\\w+)\\((.*)\\);$")
            .matcher(Files.readString(Path.of("../shared/DOC.md")));
        while (lines.find()) {
            int parameters = lines.group(3).isEmpty() ? 0 : lines.group(3).split(",").length;
            wanted.add(lines.group(1) + " " + lines.group(2) + " " + "int ".repeat(parameters));
        }
        Set<String> there = new TreeSet<>();
        for (Method m : StrangersWind.class.getDeclaredMethods()) {
            if (Modifier.isPublic(m.getModifiers())) {
                String parameters = Arrays.stream(m.getParameterTypes()).map(p -> p + " ").collect(Collectors.joining());
                there.add(m.getReturnType() + " " + m.getName() + " " + parameters);
            }
        }
        due("46 methods in the document", wanted.size() == 46);
        due("the public methods " + there + " for " + wanted, there.equals(wanted));
    }

    private static void constants() {
        due("BAD", StrangersWind.BAD == -1);
        due("FULL", StrangersWind.FULL == -2);
        due("FINDING", StrangersWind.FINDING == -3);
        due("STATE", StrangersWind.STATE == -4);
        due("SPENT", StrangersWind.SPENT == -6);
        due("NONE", StrangersWind.NONE == -9);
    }

    private static void members() {
        due("public and final", Modifier.isPublic(StrangersWind.class.getModifiers())
            && Modifier.isFinal(StrangersWind.class.getModifiers()));
        Constructor<?>[] constructors = StrangersWind.class.getDeclaredConstructors();
        due("one public constructor", constructors.length == 1 && constructors[0].getParameterCount() == 0
            && Modifier.isPublic(constructors[0].getModifiers()));
        Set<String> constants = Set.of("BAD", "FULL", "FINDING", "STATE", "SPENT", "NONE");
        for (Field f : StrangersWind.class.getDeclaredFields()) {
            due(f.getName() + " is private", constants.contains(f.getName())
                ? Modifier.isPublic(f.getModifiers()) : Modifier.isPrivate(f.getModifiers()));
        }
        Set<String> faceNames = new TreeSet<>();
        for (Method m : StrangersWind.class.getDeclaredMethods()) {
            if (Modifier.isPublic(m.getModifiers())) {
                faceNames.add(m.getName());
            }
        }
        List<Class<?>> classes = new ArrayList<>(List.of(StrangersWind.class.getDeclaredClasses()));
        due("at most twelve classes", classes.size() <= 11);
        for (Class<?> c : classes) {
            due(c + " is static", Modifier.isStatic(c.getModifiers()) && !Modifier.isPublic(c.getModifiers()));
        }
        classes.add(StrangersWind.class);
        for (Class<?> c : classes) {
            memberRules(c, faceNames);
        }
    }

    private static void memberRules(Class<?> c, Set<String> faceNames) {
        int fields = 0;
        for (Field f : c.getDeclaredFields()) {
            boolean isStatic = Modifier.isStatic(f.getModifiers());
            fields += isStatic ? 0 : 1;
            due(f + " is final", !isStatic || Modifier.isFinal(f.getModifiers()));
        }
        due(c + " has at most twenty fields", fields <= 20);
        for (Method m : c.getDeclaredMethods()) {
            due(m + " takes at most seven", m.getParameterCount() <= 7);
            boolean own = c != StrangersWind.class || !Modifier.isPublic(m.getModifiers());
            due(m + " has a name of its own", !own || !faceNames.contains(m.getName()));
            due(m + " is private or the face", c != StrangersWind.class
                || Modifier.isPublic(m.getModifiers()) || Modifier.isPrivate(m.getModifiers()));
        }
    }

    private static void source() throws IOException {
        String source = Files.readString(Path.of("src/main/java/StrangersWind.java"));
        String code = source.replaceAll("(?s)/\\*.*?\\*/", "").replaceAll("//[^\n]*", "");
        String[] ruledOut = {"\\bthrow\\b", "\\btry\\b", "\\bcatch\\b", "\\bsynchronized\\b", "\\bassert\\b", "->", "::",
            "\\bprotected\\b", "\\bpackage\\b", "\\w+Exact\\b", "\\bObject\\b", "\\bhashCode\\b", "\\btoString\\b",
            "\\bSystem\\.(?!arraycopy)", "\\bArrays\\.(?!(copyOf|copyOfRange|fill)\\b)", "\\bdouble\\b", "\\bfloat\\b"};
        for (String word : ruledOut) {
            due("no " + word, !Pattern.compile(word).matcher(code).find());
        }
        Matcher imports = Pattern.compile("(?m)^import (.*);").matcher(code);
        while (imports.find()) {
            due("import " + imports.group(1), Set.of("java.util.Arrays", "java.util.ArrayList", "java.util.List")
                .contains(imports.group(1)));
        }
        due("characters of 1 to 127", source.chars().allMatch(ch -> ch >= 1 && ch <= 127));
        methodLengths(source.split("\n"));
    }

    private static void methodLengths(String[] lines) {
        Pattern head = Pattern.compile("^(    |        )(?!.*\\b(class|record|enum|interface)\\b)[a-zA-Z].*\\) \\{$");
        for (int i = 0; i < lines.length; i++) {
            Matcher m = head.matcher(lines[i]);
            if (m.matches()) {
                int end = i;
                while (end < lines.length && !lines[end].equals(m.group(1) + "}")) {
                    end++;
                }
                due(lines[i].trim() + " has at most sixty lines", end - i < 60);
            }
        }
    }
}
