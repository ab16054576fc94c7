import java.io.IOException;
import java.lang.reflect.Method;
import java.lang.reflect.Modifier;
import java.nio.file.Files;
import java.nio.file.Path;
import java.util.ArrayList;
import java.util.List;
import java.util.Set;
import java.util.TreeSet;
import java.util.regex.Matcher;
import java.util.regex.Pattern;
import java.util.stream.Collectors;
import java.util.stream.Stream;
import javax.tools.ToolProvider;

/** What README.md says holds as it is written: its calls with their answers, its tables, its list of tests. */
public final class ReadmeTest {
    private static final Path PAGE = Path.of("README.md");
    private static final Path COMMAND = Path.of(".ci/run");
    private static final String OPENS = "```java";
    private static final String CLOSES = "```";
    private static final String MAKING = "LoanRounds rounds = new LoanRounds();";

    private static final Pattern CALL =
        Pattern.compile("(?:(\\w+) (\\w+) = )?(rounds\\.\\w+\\(.*\\)); +// ([^:]+): .+");
    private static final Pattern ROW = Pattern.compile("\\| `(\\w+)\\((.*?)\\)` \\|(.*)\\|(.*)\\|");
    private static final Pattern THROWN = Pattern.compile("`(\\w+Exception)`");
    private static final Pattern SETTING = Pattern.compile("\\| (\\d) \\|.*\\| (\\d+) to (\\d+) \\| (\\d+) \\|");
    private static final Pattern TEST = Pattern.compile("`(\\w+)`");

    private final Checks checks = new Checks("ReadmeTest");
    private final List<String> page;

    private ReadmeTest() throws IOException {
        page = Files.readAllLines(PAGE);
    }

    // ---- the calls that are shown

    /** A call as the page shows it: perhaps kept under a name of a type, and the answer that stands behind it. */
    private record Shown(String type, String name, String call, String answer) {
        String method() {
            return call.substring("rounds.".length(), call.indexOf('('));
        }

        // A call whose answer is kept must not throw; of the others the exception's name is the answer.
        String asCode() {
            if (name == null) return "answers.add(Checks.told(() -> " + call + "));\n";
            return type + " " + name + " = " + call + ";\nanswers.add(String.valueOf(" + name + "));\n";
        }
    }

    private List<List<String>> blocks() {
        List<List<String>> blocks = new ArrayList<>();
        boolean inside = false;
        for (String line : page) {
            if (line.equals(OPENS)) blocks.add(new ArrayList<>());
            else if (inside && !line.equals(CLOSES)) blocks.get(blocks.size() - 1).add(line);
            inside = line.equals(OPENS) || (inside && !line.equals(CLOSES));
        }
        return blocks;
    }

    private List<Shown> callsOf(List<String> block) {
        List<Shown> calls = new ArrayList<>();
        checks.due("how a block begins", block.isEmpty() ? "" : block.get(0), MAKING);
        for (int i = 1; i < block.size(); i++) {
            Matcher line = CALL.matcher(block.get(i));
            checks.due("'" + block.get(i) + "' is a call with its answer", line.matches(), true);
            if (line.matches()) calls.add(new Shown(line.group(1), line.group(2), line.group(3), line.group(4)));
        }
        return calls;
    }

    private static String program(String name, List<Shown> calls) {
        return "final class " + name + " {\n"
            + "static java.util.List<String> answers() {\n"
            + "java.util.List<String> answers = new java.util.ArrayList<>();\n"
            + MAKING + "\n" + calls.stream().map(Shown::asCode).collect(Collectors.joining())
            + "return answers;\n}\n}\n";
    }

    // The new class is put beside this one, so that both are of one package to the machine too.
    private List<?> answers(String name, List<Shown> calls) throws Exception {
        Path folder = Path.of(ReadmeTest.class.getProtectionDomain().getCodeSource().getLocation().toURI());
        Path file = folder.resolve(name + ".java");
        Files.writeString(file, program(name, calls));
        String at = folder.toString();
        int refused = ToolProvider.getSystemJavaCompiler().run(null, null, null, "-cp", at, "-d", at, file.toString());
        checks.due(name + " compiles", refused, 0);
        return refused == 0 ? (List<?>) Class.forName(name).getDeclaredMethod("answers").invoke(null) : List.of();
    }

    private void callsAnswerAsShown() throws Exception {
        Set<String> called = new TreeSet<>();
        int number = 0;
        for (List<String> block : blocks()) {
            List<Shown> calls = callsOf(block);
            List<?> answers = answers("ReadmeBlock" + number++, calls);
            for (int i = 0; i < answers.size(); i++) {
                checks.due(calls.get(i).call(), String.valueOf(answers.get(i)), calls.get(i).answer());
                called.add(calls.get(i).method());
            }
        }
        checks.due("the calls that are shown", called.toString(), names().toString());
    }

    // ---- the table of calls

    private static List<Method> face() {
        return Stream.of(LoanRounds.class.getDeclaredMethods())
            .filter(m -> Modifier.isPublic(m.getModifiers())).collect(Collectors.toList());
    }

    private static Set<String> names() {
        return face().stream().map(Method::getName).collect(Collectors.toCollection(TreeSet::new));
    }

    private static Set<String> found(Pattern what, String text) {
        Set<String> found = new TreeSet<>();
        Matcher one = what.matcher(text);
        while (one.find()) found.add(one.group(1));
        return found;
    }

    private void tableIsTheFace() {
        Set<String> rows = new TreeSet<>();
        for (String line : page) {
            Matcher row = ROW.matcher(line);
            if (row.matches()) rows.add(told(row.group(1), parameters(row.group(2)), found(THROWN, row.group(4))));
        }
        Set<String> due = new TreeSet<>();
        for (Method m : face()) {
            Set<String> thrown = new TreeSet<>();
            for (Class<?> e : m.getExceptionTypes()) thrown.add(e.getSimpleName());
            due.add(told(m.getName(), m.getParameterCount(), thrown));
        }
        checks.due("the table", rows.toString(), due.toString());
    }

    private static String told(String name, int parameters, Set<String> thrown) {
        return name + " of " + parameters + " throws " + thrown;
    }

    private static int parameters(String list) {
        return list.isEmpty() ? 0 : list.split(", ").length;
    }

    // ---- the table of settings

    private void settingsAreAsTold() {
        int rows = 0;
        for (String line : page) {
            Matcher row = SETTING.matcher(line);
            if (!row.matches()) continue;
            int what = Integer.parseInt(row.group(1));
            int least = Integer.parseInt(row.group(2));
            int greatest = Integer.parseInt(row.group(3));
            LoanRounds rounds = new LoanRounds();
            checks.due("what of row " + rows, what, rows++);
            checks.due(what + " below its least", rounds.set(what, 0, least - 1), false);
            checks.due(what + " at its least", rounds.set(what, 0, least), true);
            checks.due(what + " at its greatest", rounds.set(what, 0, greatest), true);
            checks.due(what + " above its greatest", rounds.set(what, 0, greatest + 1), false);
            checks.due(what + " at first", Settings.measured(x -> { }, what, 0), Integer.parseInt(row.group(4)));
        }
        checks.due("rows of settings", rows, Terms.LIMIT + 1);
    }

    // ---- the tests and their command

    private static Set<String> filesOf(String folder) throws IOException {
        try (Stream<Path> files = Files.list(Path.of(folder))) {
            return files.map(f -> f.getFileName().toString().replace(".java", ""))
                .collect(Collectors.toCollection(TreeSet::new));
        }
    }

    private void testsAreListed() throws IOException {
        String list = page.stream().dropWhile(l -> !l.equals("## How to run its tests"))
            .dropWhile(l -> !l.startsWith("- ")).collect(Collectors.joining("\n"));
        Set<String> due = filesOf("src/test/java");
        due.addAll(filesOf("src/test/support"));
        checks.due("the list of tests", found(TEST, list).toString(), due.toString());
    }

    private void commandIsThere() {
        checks.due("the command is named", page.contains("    " + COMMAND), true);
        checks.due("the command can be run", Files.isExecutable(COMMAND), true);
    }

    public static void main(String[] args) throws Exception {
        ReadmeTest test = new ReadmeTest();
        test.callsAnswerAsShown();
        test.tableIsTheFace();
        test.settingsAreAsTold();
        test.testsAreListed();
        test.commandIsThere();
        test.checks.close();
    }
}
