import java.io.ByteArrayOutputStream;
import java.io.PrintStream;
import java.lang.reflect.InvocationTargetException;
import java.net.URL;
import java.net.URLClassLoader;
import java.nio.charset.StandardCharsets;
import java.nio.file.Files;
import java.nio.file.Path;
import java.util.ArrayList;
import java.util.List;
import java.util.regex.Matcher;
import java.util.regex.Pattern;
import java.util.stream.Stream;

/** What README.md says is so: its program compiles as it stands there and prints what its remarks say. */
public final class ReadmeTest {
    private static final Path README = Path.of("README.md");
    private static final Pattern PROGRAM = Pattern.compile("(?s)```java\n(.*?)```\n");
    /** A remark tells a line of the output, up to a comma, behind which it says what this is. */
    private static final Pattern REMARK = Pattern.compile("// -> ([^,\n]*)");
    /** What the program has to show, by a call for each of them. */
    private static final List<String> SHOWN = List.of("feed", "truncate", "readText", "errorCode", "errorPosition",
            "setting", "wordAt", "distance", "score", "best", "ranked", "second", "choose", "improve", "agreement",
            "takeBest", "setOut", "runScript", "report", "reportByte", "undo", "save", "restore");

    private ReadmeTest() {
    }

    public static void main(String[] args) throws Exception {
        Check check = new Check("README.md");
        String readme = Files.readString(README, StandardCharsets.UTF_8);
        Matcher programs = PROGRAM.matcher(readme);
        check.that("there is a program", programs.find());
        String program = programs.group(1);
        check.that("there is one program", !programs.find());
        for (String call : SHOWN) {
            check.that("the program shows " + call, program.contains("words." + call + "("));
        }
        compareLines(check, program);
        compareTable(check, readme);
        check.end();
    }

    private static void compareLines(Check check, String program) throws Exception {
        List<String> due = REMARK.matcher(program).results().map(m -> m.group(1)).toList();
        List<String> printed = List.of(outputOf(check, program).split("\n"));
        check.due("printed lines", printed.size(), due.size());
        for (int k = 0; k < Math.min(due.size(), printed.size()); k++) {
            check.due("line " + k, printed.get(k), due.get(k));
        }
        for (String line : program.split("\n")) {
            boolean prints = line.matches(" +print\\(.*");
            check.that("a remark behind " + line.strip(), !prints || REMARK.matcher(line).find());
        }
    }

    /** Compiles the program, with warnings as errors, and runs it. */
    private static String outputOf(Check check, String program) throws Exception {
        Path place = Files.createTempDirectory("readme");
        Path source = place.resolve("Example.java");
        Files.writeString(source, program);
        int answer = new ProcessBuilder("javac", "-Xlint:all", "-Werror", "-cp", System.getProperty("java.class.path"),
                "-d", place.toString(), source.toString()).inheritIO().start().waitFor();
        check.due("the compiler", answer, 0);
        String output = answer == 0 ? run(check, place) : "";
        for (Path file : filesOf(place)) {
            Files.delete(file);
        }
        Files.delete(place);
        return output;
    }

    private static String run(Check check, Path place) throws Exception {
        ByteArrayOutputStream bytes = new ByteArrayOutputStream();
        PrintStream console = System.out;
        System.setOut(new PrintStream(bytes, true, StandardCharsets.US_ASCII));
        try (URLClassLoader loader = new URLClassLoader(new URL[] {place.toUri().toURL()})) {
            loader.loadClass("Example").getMethod("main", String[].class).invoke(null, (Object) new String[0]);
        } catch (InvocationTargetException e) {
            check.due("the program", e.getCause(), "no exception");
        } finally {
            System.setOut(console);
        }
        return bytes.toString(StandardCharsets.US_ASCII);
    }

    private static List<Path> filesOf(Path place) throws Exception {
        try (Stream<Path> files = Files.list(place)) {
            return new ArrayList<>(files.toList());
        }
    }

    /** The table of tests tells each one that there is, and no other. */
    private static void compareTable(Check check, String readme) throws Exception {
        List<String> told = new ArrayList<>();
        Pattern.compile("(?m)^\\| `(\\w+)` \\|").matcher(readme).results().forEach(m -> told.add(m.group(1)));
        List<String> tests = new ArrayList<>();
        for (Path file : filesOf(Path.of("src/test/java"))) {
            String name = file.getFileName().toString().replace(".java", "");
            if (name.endsWith("Test")) {
                tests.add(name);
            }
        }
        told.sort(null);
        tests.sort(null);
        check.due("the tests in the table", told, tests);
        check.that(".ci/run can be run", Files.isExecutable(Path.of(".ci/run")));
    }
}
