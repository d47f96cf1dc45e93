import java.io.IOException;
import java.io.UncheckedIOException;
import java.lang.reflect.Method;
import java.lang.reflect.Modifier;
import java.nio.charset.StandardCharsets;
import java.nio.file.Files;
import java.nio.file.Path;
import java.util.Comparator;
import java.util.concurrent.TimeUnit;
import java.util.regex.Matcher;
import java.util.regex.Pattern;
import java.util.stream.Stream;

/** What README.md says is so when it is tried as written: in a copy of the project, each block in its turn. */
public final class ReadmeTests {
    private static final Path README = Path.of("README.md"), SOURCES = Path.of("src");
    private static final Pattern BLOCK = Pattern.compile("^```(\\w*)\\n(.*?)^```$", Pattern.MULTILINE | Pattern.DOTALL);
    private static final Pattern PROGRAM = Pattern.compile("public class (\\w+)");
    /** It runs this test, too: tried here it would have no end. */
    private static final String ALL_TESTS = ".ci/run\n";
    private static final int MOST_MINUTES = 5;

    private static int wrong;

    private static void expect(boolean is, String what) {
        if (!is) {
            wrong++;
            System.out.println(what);
        }
    }

    private static void names(String page) throws IOException {
        for (Method m : NotYetSaid.class.getDeclaredMethods()) {
            boolean isCall = Modifier.isPublic(m.getModifiers());
            expect(!isCall || page.contains("`" + m.getName() + "`"), "README.md doesn't name the call " + m.getName());
        }
        try (Stream<Path> tests = Files.list(SOURCES.resolve("test/java"))) {
            for (Path test : tests.toList()) {
                String name = test.getFileName().toString().replace(".java", "");
                expect(page.contains("`" + name + "`"), "README.md doesn't name the test " + name);
            }
        }
    }

    // ---- blocks

    private static void tryBlocks(String page, Path copy) throws IOException, InterruptedException {
        int programs = 0, runs = 0, outputs = 0;
        boolean isAllTestsTold = false;
        String printed = "";
        Matcher m = BLOCK.matcher(page);
        while (m.find()) {
            String block = m.group(2);
            switch (m.group(1)) {
                case "java" -> {
                    Matcher program = PROGRAM.matcher(block);
                    expect(program.find(), "README.md has a program without a name");
                    Files.writeString(copy.resolve(program.group(1) + ".java"), block);
                    programs++;
                }
                case "sh" -> {
                    if (block.equals(ALL_TESTS)) {
                        isAllTestsTold = true;
                    } else {
                        printed = run(block, copy);
                        runs++;
                    }
                }
                case "text" -> {
                    expect(block.equals(printed), "README.md says that this is printed:\n" + block + "it is:\n" + printed);
                    outputs++;
                }
                default -> expect(false, "README.md has a block of another sort: " + block);
            }
        }
        expect(programs == 1 && runs == 3 && outputs == 1,
                "of README.md " + programs + " programs, " + runs + " runs, " + outputs + " outputs were tried");
        expect(isAllTestsTold && Files.isExecutable(Path.of(ALL_TESTS.strip())), "README.md's .ci/run can't be run");
    }

    private static String run(String block, Path copy) throws IOException, InterruptedException {
        Path output = copy.resolve("printed");
        Process shell = new ProcessBuilder("sh", "-e", "-c", block).directory(copy.toFile())
                .redirectError(ProcessBuilder.Redirect.INHERIT).redirectOutput(output.toFile()).start();
        boolean hasEnded = shell.waitFor(MOST_MINUTES, TimeUnit.MINUTES);
        if (!hasEnded) {
            shell.destroyForcibly();
        }
        String printed = Files.readString(output);
        expect(hasEnded && shell.exitValue() == 0, "README.md's lines fail:\n" + block + printed);
        return printed;
    }

    // ---- the copy

    private static void copyTo(Path copy) throws IOException {
        try (Stream<Path> all = Files.walk(SOURCES)) {
            for (Path from : all.toList()) {
                Files.copy(from, copy.resolve(from));
            }
        }
    }

    private static void remove(Path copy) throws IOException {
        try (Stream<Path> all = Files.walk(copy)) {
            all.sorted(Comparator.reverseOrder()).forEach(path -> {
                try {
                    Files.delete(path);
                } catch (IOException e) {
                    throw new UncheckedIOException(e);
                }
            });
        }
    }

    public static void main(String[] args) throws IOException, InterruptedException {
        String page = Files.readString(README, StandardCharsets.UTF_8);
        names(page);
        Path copy = Files.createTempDirectory("readme");
        try {
            copyTo(copy);
            tryBlocks(page, copy);
        } finally {
            remove(copy);
        }
        System.out.println(wrong == 0 ? "README.md's lines do as it says" : wrong + " things are not as README.md says");
        if (wrong != 0) {
            System.exit(1);
        }
    }
}
