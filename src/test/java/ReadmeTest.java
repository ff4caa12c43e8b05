import java.io.IOException;
import java.lang.ProcessBuilder.Redirect;
import java.lang.reflect.Field;
import java.lang.reflect.Method;
import java.lang.reflect.Modifier;
import java.nio.charset.StandardCharsets;
import java.nio.file.Files;
import java.nio.file.Path;
import java.util.ArrayList;
import java.util.Comparator;
import java.util.List;
import java.util.Set;
import java.util.TreeSet;
import java.util.regex.MatchResult;
import java.util.regex.Matcher;
import java.util.regex.Pattern;
import java.util.stream.Collectors;
import java.util.stream.Stream;

/**
 * README.md: its blocks are done as written, in their order, in a copy of the project, and its tables name what there is.
 * A java block is a file to be written, an sh block is run and must end with 0, a text block is what the one ahead of it
 * printed.
 */
public final class ReadmeTest {
    private static final Path PAGE = Path.of("README.md");
    private static final Pattern BLOCK = Pattern.compile("^```(\\w+)\n(.*?)^```$", Pattern.MULTILINE | Pattern.DOTALL);
    private static final Pattern CLASS = Pattern.compile("public (?:final )?class (\\w+)");
    private static final Pattern CALL_ROW = Pattern.compile("^\\| (?!`)[^|]*\\|([^|]*)\\|$", Pattern.MULTILINE);
    private static final Pattern CALL = Pattern.compile("`(\\w+)\\(([\\w, ]*)\\)`");
    private static final Pattern CONSTANT_ROW = Pattern.compile("^\\| `([A-Z_]+)` \\| (-?\\d+) \\|", Pattern.MULTILINE);
    private static final Pattern TEST_ROW = Pattern.compile("^\\| `(\\w+Test)` \\|", Pattern.MULTILINE);
    private static final Pattern ORDER_ROW = Pattern.compile("^\\| `([^`]+;)` \\| `(\\w+)\\(([\\d, ]+)\\)` \\|$",
        Pattern.MULTILINE);

    // .ci/run runs this test: to run it from here would have no end.
    private static final String ALL_TESTS = ".ci/run";

    public static void main(String[] args) throws IOException, InterruptedException {
        String page = Files.readString(PAGE);
        blocksAreDoneAsWritten(page);
        callsAreThoseOfTheFace(page);
        constantsHaveTheirNumbers(page);
        ordersDoWhatTheCallsDo(page);
        testsAreThoseThatThereAre(page);
        Check.finish();
    }

    private static void blocksAreDoneAsWritten(String page) throws IOException, InterruptedException {
        Path copy = Files.createTempDirectory("readme");
        try {
            copyOfTheProject(copy);
            doBlocks(page, copy);
        } finally {
            remove(copy);
        }
    }

    private static void doBlocks(String page, Path copy) throws IOException, InterruptedException {
        Set<String> done = new TreeSet<>();
        String printed = "nothing was run";
        for (MatchResult block : all(BLOCK, page)) {
            String inside = block.group(2);
            switch (block.group(1)) {
                case "java":
                    Files.writeString(copy.resolve(nameOfClass(inside) + ".java"), inside);
                    break;
                case "sh":
                    boolean isOfAllTests = inside.strip().equals(ALL_TESTS);
                    done.add(isOfAllTests ? "all tests" : inside.contains("Test") ? "a test" : "own class");
                    printed = isOfAllTests ? allTestsCanBeRun() : run(inside, copy);
                    break;
                case "text":
                    done.add("what is printed");
                    Check.same("what README.md says that is printed", inside, printed);
                    break;
                default:
                    Check.same("a kind of block in README.md", block.group(1), "java, sh or text");
            }
        }
        Check.same("what README.md shows", done.toString(), "[a test, all tests, own class, what is printed]");
    }

    private static void copyOfTheProject(Path copy) throws IOException {
        for (Path from : below(Path.of("src"))) {
            Path to = copy.resolve(from.toString());
            Files.createDirectories(to.getParent());
            Files.copy(from, to);
        }
    }

    private static List<Path> below(Path folder) throws IOException {
        try (Stream<Path> paths = Files.walk(folder)) {
            return paths.filter(Files::isRegularFile).sorted().collect(Collectors.toList());
        }
    }

    private static void remove(Path folder) throws IOException {
        try (Stream<Path> paths = Files.walk(folder)) {
            for (Path path : paths.sorted(Comparator.reverseOrder()).collect(Collectors.toList())) {
                Files.delete(path);
            }
        }
    }

    private static String nameOfClass(String inside) {
        Matcher name = CLASS.matcher(inside);
        boolean isNamed = name.find();
        Check.due("a class in README.md is public", isNamed ? 1 : 0, 1);
        return isNamed ? name.group(1) : "Nameless";
    }

    private static String allTestsCanBeRun() {
        Check.due(ALL_TESTS + " can be run", Files.isExecutable(Path.of(ALL_TESTS)) ? 1 : 0, 1);
        return "";
    }

    private static String run(String commands, Path folder) throws IOException, InterruptedException {
        Process process = new ProcessBuilder("sh", "-e", "-c", commands)
            .directory(folder.toFile())
            .redirectError(Redirect.INHERIT)
            .start();
        process.getOutputStream().close();
        String printed = new String(process.getInputStream().readAllBytes(), StandardCharsets.UTF_8);
        Check.due("commands of README.md: " + commands.strip(), process.waitFor(), 0);
        return printed;
    }

    private static void callsAreThoseOfTheFace(String page) {
        Set<String> shown = new TreeSet<>();
        for (MatchResult row : all(CALL_ROW, page)) {
            for (MatchResult call : all(CALL, row.group(1))) {
                int parameters = call.group(2).isEmpty() ? 0 : call.group(2).split(", ").length;
                shown.add(call.group(1) + " " + parameters);
            }
        }
        Set<String> due = new TreeSet<>();
        for (Method method : BoilerPapers.class.getDeclaredMethods()) {
            if (Modifier.isPublic(method.getModifiers())) {
                due.add(method.getName() + " " + method.getParameterCount());
            }
        }
        Check.same("the calls that README.md names", shown.toString(), due.toString());
    }

    private static void constantsHaveTheirNumbers(String page) {
        Set<String> shown = new TreeSet<>();
        for (MatchResult row : all(CONSTANT_ROW, page)) {
            shown.add(row.group(1) + " " + row.group(2));
        }
        Set<String> due = new TreeSet<>();
        for (Field field : BoilerPapers.class.getFields()) {
            due.add(field.getName() + " " + numberIn(field));
        }
        Check.same("the constants that README.md names", shown.toString(), due.toString());
    }

    private static int numberIn(Field constant) {
        try {
            return constant.getInt(null);
        } catch (IllegalAccessException e) {
            return 0;
        }
    }

    /** Each order of the table, played, and the call beside it, made, on objects on which both are possible. */
    private static void ordersDoWhatTheCallsDo(String page) {
        List<MatchResult> rows = all(ORDER_ROW, page);
        Check.due("kinds of orders that README.md names", rows.size(), 6);
        for (MatchResult row : rows) {
            String order = row.group(1);
            BoilerPapers played = houseFor(row.group(2));
            for (int i = 0; i < order.length(); i++) {
                played.type(order.charAt(i));
            }
            Check.due("play of " + order, played.play(), 1);
            BoilerPapers called = houseFor(row.group(2));
            int[] numbers = Stream.of(row.group(3).split(", ")).mapToInt(Integer::parseInt).toArray();
            Call call = new Call(row.group(2), numbers);
            Check.due(call + ", an error,", Check.isError(call.on(called)) ? 1 : 0, 0);
            Check.same("what is left by " + order + " and by " + call, View.of(played), View.of(called));
        }
    }

    private static BoilerPapers houseFor(String call) {
        BoilerPapers x = new BoilerPapers();
        x.boiler(10);
        x.inspector(0, 1);
        x.inspector(0, 1);
        x.inspect(0, 0);
        if (call.equals("out")) {
            x.fire(0);
        }
        return x;
    }

    private static void testsAreThoseThatThereAre(String page) throws IOException {
        Set<String> shown = new TreeSet<>();
        for (MatchResult row : all(TEST_ROW, page)) {
            shown.add(row.group(1) + ".java");
        }
        Set<String> due = new TreeSet<>();
        for (Path file : below(Path.of("src/test/java"))) {
            if (file.toString().endsWith("Test.java")) {
                due.add(file.getFileName().toString());
            }
        }
        Check.same("the tests that README.md names", shown.toString(), due.toString());
    }

    private static List<MatchResult> all(Pattern pattern, String text) {
        Matcher matcher = pattern.matcher(text);
        List<MatchResult> found = new ArrayList<>();
        while (matcher.find()) {
            found.add(matcher.toMatchResult());
        }
        return found;
    }
}
