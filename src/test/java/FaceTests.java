import java.io.IOException;
import java.lang.reflect.Constructor;
import java.lang.reflect.Field;
import java.lang.reflect.Method;
import java.lang.reflect.Modifier;
import java.nio.charset.StandardCharsets;
import java.nio.file.Files;
import java.nio.file.Path;
import java.util.Arrays;
import java.util.List;
import java.util.Set;
import java.util.TreeSet;
import java.util.regex.Matcher;
import java.util.regex.Pattern;
import java.util.stream.Collectors;

/** The face is the document's, and the source keeps to what of LANGUAGE.md can be seen from afar. */
public final class FaceTests {
    private static final Path DOC = Path.of("../shared/DOC.md");
    private static final Path SOURCE = Path.of("src/main/java/NotYetSaid.java");
    private static final int MOST_CLASSES = 12, MOST_FIELDS = 20, MOST_PARAMETERS = 7, LONGEST_METHOD = 60;

    private static int wrong;

    private static void expect(boolean is, String what) {
        if (!is) {
            wrong++;
            System.out.println(what);
        }
    }

    // ---- the face

    private static Set<String> told() throws IOException {
        Set<String> all = new TreeSet<>();
        Matcher m = Pattern.compile("^    public (int|NotYetSaid)\\b(?: (\\w+))?\\((.*?)\\);$", Pattern.MULTILINE)
                .matcher(Files.readString(DOC, StandardCharsets.UTF_8));
        while (m.find()) {
            String types = Arrays.stream(m.group(3).split(", ")).map(p -> p.split(" ")[0]).collect(Collectors.joining(","));
            all.add((m.group(2) == null ? "<new>" : m.group(2)) + "(" + types + ")");
        }
        return all;
    }

    private static String types(Class<?>[] of) {
        return Arrays.stream(of).map(Class::getSimpleName).collect(Collectors.joining(","));
    }

    private static Set<String> seen() {
        Set<String> all = new TreeSet<>();
        for (Constructor<?> c : NotYetSaid.class.getDeclaredConstructors()) {
            expect(Modifier.isPublic(c.getModifiers()), "a constructor isn't public: " + c);
            all.add("<new>(" + types(c.getParameterTypes()) + ")");
        }
        for (Method m : NotYetSaid.class.getDeclaredMethods()) {
            if (Modifier.isPrivate(m.getModifiers())) {
                continue;
            }
            expect(Modifier.isPublic(m.getModifiers()) && m.getReturnType() == int.class, "not of the face: " + m);
            all.add(m.getName() + "(" + types(m.getParameterTypes()) + ")");
        }
        return all;
    }

    private static void face() throws IOException {
        Set<String> told = told();
        expect(told.size() == 49, "the document tells " + told.size() + " members, not 49");
        expect(told.equals(seen()), "the document tells " + told + ", there are " + seen());
        expect(Modifier.isPublic(NotYetSaid.class.getModifiers()) && Modifier.isFinal(NotYetSaid.class.getModifiers()),
                "the class isn't public and final");
        List<String> constants = List.of("BAD", "FULL", "NONE", "STATE");
        for (Field f : NotYetSaid.class.getDeclaredFields()) {
            boolean isConstant = constants.contains(f.getName());
            expect(Modifier.isPublic(f.getModifiers()) == isConstant, "public or not: " + f);
            expect(isConstant || Modifier.isPrivate(f.getModifiers()), "not private: " + f);
        }
        expect(NotYetSaid.BAD == -1 && NotYetSaid.FULL == -2 && NotYetSaid.NONE == -3 && NotYetSaid.STATE == -4, "constants");
    }

    // ---- the classes

    private static void classes() {
        Set<String> faceNames = Arrays.stream(NotYetSaid.class.getDeclaredMethods())
                .filter(m -> Modifier.isPublic(m.getModifiers())).map(Method::getName).collect(Collectors.toSet());
        List<Class<?>> all = new java.util.ArrayList<>(List.of(NotYetSaid.class.getDeclaredClasses()));
        expect(all.size() < MOST_CLASSES, "classes: " + (all.size() + 1));
        for (Class<?> c : all) {
            expect(Modifier.isStatic(c.getModifiers()) && !Modifier.isPublic(c.getModifiers()), "not static, or public: " + c);
        }
        all.add(NotYetSaid.class);
        for (Class<?> c : all) {
            long fields = Arrays.stream(c.getDeclaredFields()).filter(f -> !Modifier.isStatic(f.getModifiers())).count();
            expect(fields <= MOST_FIELDS, c + " has " + fields + " fields");
            for (Field f : c.getDeclaredFields()) {
                expect(!Modifier.isStatic(f.getModifiers()) || Modifier.isFinal(f.getModifiers()), "static, not final: " + f);
            }
            for (Method m : c.getDeclaredMethods()) {
                expect(m.getParameterCount() <= MOST_PARAMETERS, "too many parameters: " + m);
                boolean isPublic = c == NotYetSaid.class && Modifier.isPublic(m.getModifiers());
                expect(isPublic || !faceNames.contains(m.getName()), "bears the name of a public one: " + m);
                expect(!m.isSynthetic(), "a lambda or the like: " + m);
                expect(!List.of("equals", "hashCode", "toString").contains(m.getName()), "not allowed: " + m);
            }
        }
    }

    // ---- the words

    private static void words() throws IOException {
        String whole = Files.readString(SOURCE, StandardCharsets.ISO_8859_1);
        expect(whole.chars().allMatch(c -> c == '\n' || c >= ' ' && c < 127), "there are signs other than ASCII's, or tabs");
        String code = whole.replaceAll("(?s)/\\*.*?\\*/", " ").replaceAll("//[^\\n]*", " ")
                .replaceAll("\"(\\\\.|[^\"\\\\])*\"", "\"\"").replaceAll("'(\\\\.|[^'\\\\])'", "' '");
        Matcher imports = Pattern.compile("import ([^;]+);").matcher(code);
        while (imports.find()) {
            expect(List.of("java.util.Arrays", "java.util.ArrayList", "java.util.List").contains(imports.group(1)),
                    "imports " + imports.group(1));
        }
        for (String word : List.of("throw", "throws", "try", "catch", "finally", "synchronized", "assert", "package", "volatile",
                "transient", "native", "var", "yield", "System.out", "System.err", "nanoTime", "currentTimeMillis", "Random",
                "Thread", "Object", "equals", "hashCode", "toString")) {
            expect(!Pattern.compile("\\b" + Pattern.quote(word) + "\\b").matcher(code).find(), "the word " + word);
        }
        for (String sign : List.of("->", "::", "@", "\"\" +", "+ \"\"")) {
            expect(!code.contains(sign), "the sign " + sign);
        }
        int since = 0;
        List<String> lines = whole.lines().toList();
        for (int k = 0; k < lines.size(); k++) {
            if (lines.get(k).matches("( {4}| {8})\\w.*\\{")) {
                since = k;
            }
            boolean ends = lines.get(k).matches(" {4}( {4})?\\}");
            expect(!ends || lines.get(since).contains(" class ") || k - since < LONGEST_METHOD, "long: " + lines.get(since));
        }
    }

    public static void main(String[] args) throws IOException {
        face();
        classes();
        words();
        System.out.println(wrong == 0 ? "the face is the document's" : wrong + " things are not as told");
        if (wrong != 0) {
            System.exit(1);
        }
    }
}
