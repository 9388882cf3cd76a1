import java.io.File;
import java.io.IOException;
import java.lang.reflect.Method;
import java.lang.reflect.Modifier;
import java.nio.file.Files;
import java.nio.file.Path;
import java.util.ArrayList;
import java.util.Arrays;
import java.util.Comparator;
import java.util.List;
import java.util.regex.Matcher;
import java.util.regex.Pattern;
import java.util.stream.Stream;

/** That README.md is true: its commands, its example, its run of calls, and the tests that it names. */
public final class ReadmeRuns {
    private static final Path PAGE = Path.of("README.md");
    private static final Path CLASS_FILE = Path.of("src/main/java/TupleMethods.java");
    private static final Path TESTS = Path.of("src/test/java");

    /** A line that prints, and behind it what it prints, up to a colon. */
    private static final Pattern PRINTS = Pattern.compile("\\s*System\\.out\\.println\\(.*\\);\\s+// ([^:]+)(: .+)?");

    /** A row of the run: a call with its answer, and behind two signs or more why. */
    private static final Pattern ROW = Pattern.compile("(\\w+\\([^()]*\\) = \\S+)( {2,}\\S.*)?");

    private static int wrong = 0;

    public static void main(String[] args) throws IOException, InterruptedException {
        String page = Files.readString(PAGE);
        String example = block(page, "java");
        String run = block(page, "text");
        example(example, block(page, "sh"));
        rows(run);
        calls(example + run);
        specialAnswers(example, run);
        tests(page);
        System.out.println(wrong == 0 ? "the page is true" : wrong + " things of the page are not as due");
        if (wrong != 0) {
            System.exit(1);
        }
    }

    private static void fail(String why) {
        wrong++;
        System.out.println(PAGE + ": " + why);
    }

    /** What stands in the one block of a sort. */
    private static String block(String page, String sort) {
        Matcher m = Pattern.compile("(?ms)^```" + sort + "\n(.*?)^```$").matcher(page);
        String found = "";
        int count = 0;
        while (m.find()) {
            found = m.group(1);
            count++;
        }
        if (count != 1) {
            fail(count + " blocks of " + sort + ", due is one");
        }
        return found;
    }

    /** The example, compiled and run by the page's own commands in a folder where it stands as the page says. */
    private static void example(String code, String commands) throws IOException, InterruptedException {
        List<String> due = new ArrayList<>();
        for (String line : code.split("\n")) {
            Matcher m = PRINTS.matcher(line);
            if (m.matches()) {
                due.add(m.group(1).trim());
            } else if (line.contains("println")) {
                fail("nothing is told behind the line " + line.trim());
            }
        }
        Path folder = Files.createTempDirectory("readme");
        try {
            Files.createDirectories(folder.resolve(CLASS_FILE).getParent());
            Files.copy(CLASS_FILE, folder.resolve(CLASS_FILE));
            Files.writeString(folder.resolve("Example.java"), code);
            compare(due, printed(folder.toFile(), commands));
        } finally {
            remove(folder);
        }
    }

    private static List<String> printed(File folder, String commands) throws IOException, InterruptedException {
        Process p = new ProcessBuilder("sh", "-e", "-c", commands).directory(folder).redirectErrorStream(true).start();
        p.getOutputStream().close();
        String text = new String(p.getInputStream().readAllBytes());
        int code = p.waitFor();
        if (code != 0) {
            fail("the commands of the example end with " + code);
        }
        return text.isEmpty() ? List.of() : Arrays.asList(text.split("\n"));
    }

    private static void compare(List<String> due, List<String> got) {
        if (due.isEmpty()) {
            fail("the example tells no answer");
        }
        for (int i = 0; i < Math.max(due.size(), got.size()); i++) {
            String want = i < due.size() ? due.get(i) : "nothing";
            String line = i < got.size() ? got.get(i) : "nothing";
            if (!want.equals(line)) {
                fail("the example's answer " + (i + 1) + " is told as " + want + ", it is " + line);
            }
        }
    }

    private static void remove(Path folder) throws IOException {
        try (Stream<Path> all = Files.walk(folder)) {
            for (Path p : all.sorted(Comparator.reverseOrder()).toList()) {
                Files.delete(p);
            }
        }
    }

    private static void rows(String run) {
        TupleMethods x = new TupleMethods();
        for (String line : run.split("\n")) {
            Matcher m = ROW.matcher(line);
            if (!m.matches()) {
                fail("not a call with its answer: " + line);
                continue;
            }
            Asked c = Asked.one(m.group(1));
            String got = c.of(x);
            if (!got.equals(c.due)) {
                fail(c.text + " is told as " + c.due + ", it is " + got);
            }
        }
    }

    /** Each call of the face is shown. */
    private static void calls(String shown) {
        for (Method m : TupleMethods.class.getDeclaredMethods()) {
            boolean isShown = Pattern.compile("\\b" + m.getName() + "\\(").matcher(shown).find();
            if (Modifier.isPublic(m.getModifiers()) && !isShown) {
                fail("no " + m.getName() + " is shown");
            }
        }
    }

    /** NONE, -2, -3 and the exceptions are among the answers, in the example and in the run. */
    private static void specialAnswers(String example, String run) {
        for (String answer : new String[] {"-1", "-2", "-3", "thrown"}) {
            if (!example.contains("// " + answer + ":")) {
                fail("the example has no answer " + answer);
            }
        }
        for (String answer : new String[] {"NONE", "-2", "-3", "throws", "false"}) {
            if (!Pattern.compile("(?m) = " + answer + "( |$)").matcher(run).find()) {
                fail("the run has no answer " + answer);
            }
        }
    }

    /** Each test is named, and each that is named is there. */
    private static void tests(String page) throws IOException {
        List<String> there = new ArrayList<>();
        try (Stream<Path> all = Files.list(TESTS)) {
            all.forEach(p -> there.add(p.getFileName().toString().replace(".java", "")));
        }
        for (String name : there) {
            if (!page.contains("`" + name + "`")) {
                fail("the test " + name + " is not named");
            }
        }
        Matcher m = Pattern.compile("`((Boundary\\w+)|(\\w+Runs))`").matcher(page);
        while (m.find()) {
            if (!there.contains(m.group(1))) {
                fail("there is no test " + m.group(1));
            }
        }
        if (!page.contains("    .ci/run\n") || !Files.isExecutable(Path.of(".ci/run"))) {
            fail("the command that runs the tests is not told, or not there");
        }
    }
}
