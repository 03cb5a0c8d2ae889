import java.io.IOException;
import java.lang.reflect.InvocationTargetException;
import java.lang.reflect.Method;
import java.lang.reflect.Modifier;
import java.nio.charset.StandardCharsets;
import java.nio.file.DirectoryStream;
import java.nio.file.Files;
import java.nio.file.Path;
import java.util.ArrayList;
import java.util.List;
import java.util.Map;
import java.util.TreeMap;
import java.util.TreeSet;
import java.util.regex.Matcher;
import java.util.regex.Pattern;

/** README.md says how to use the class and how to run its tests: what it shows is done here, and must come out so. */
public final class ReadmeTest {
    private static final String MAKES_AN_OBJECT = "RigidRanks x = new RigidRanks();";
    private static final Pattern CALLS = Pattern.compile("((?:x\\.\\w+\\([-0-9, ]*\\); *)+)// ([^:]+)(?::.*)?");
    private static final Pattern CALL = Pattern.compile("x\\.(\\w+)\\(([-0-9, ]*)\\);");
    private static final Pattern TABLE_ROW = Pattern.compile("\\| (\\d+) \\| `(\\w+)\\(([^)]*)\\)` \\| .+ \\|");
    private static final Pattern PROMISE = Pattern.compile("## Promise (\\d+): (.+)");
    private static final Map<String, Integer> REFUSALS = Map.of("NONE", RigidRanks.NONE, "BAD", RigidRanks.BAD,
            "FULL", RigidRanks.FULL, "THERE", RigidRanks.THERE);
    private static final int MOST_CALLS = 512;
    private static final int PROMISES = 23;

    private static final TreeMap<String, Method> FACE = new TreeMap<>();
    private static final TreeSet<String> SHOWN = new TreeSet<>();
    private static RigidRanks object = null;
    private static int asked = 0;
    private static int wrong = 0;

    public static void main(String[] args) throws Exception {
        for (Method method : RigidRanks.class.getDeclaredMethods()) {
            if (Modifier.isPublic(method.getModifiers())) {
                FACE.put(method.getName(), method);
            }
        }
        List<String> lines = Files.readAllLines(Path.of("README.md"), StandardCharsets.UTF_8);
        showsUse(lines);
        showsEveryCall(lines);
        showsTests(lines);
        System.out.println(asked + " answers of README.md asked, " + wrong + " things not as due");
        if (wrong != 0) {
            System.exit(1);
        }
    }

    private static void fault(String what) {
        wrong++;
        System.out.println("README.md: " + what);
    }

    /** The blocks of one language, each with all its lines. */
    private static List<List<String>> blocks(List<String> lines, String language) {
        List<List<String>> found = new ArrayList<>();
        List<String> open = null;
        boolean isInside = false;
        for (String line : lines) {
            if (line.startsWith("```")) {
                open = !isInside && line.equals("```" + language) ? new ArrayList<>() : null;
                isInside = !isInside;
                if (open != null) {
                    found.add(open);
                }
            } else if (open != null) {
                open.add(line);
            }
        }
        return found;
    }

    // ---- how to use the class ----

    private static void showsUse(List<String> lines) throws Exception {
        for (List<String> block : blocks(lines, "java")) {
            for (String line : block) {
                if (line.equals(MAKES_AN_OBJECT)) {
                    object = new RigidRanks();
                } else {
                    showsAnswers(line);
                }
            }
        }
        for (String name : FACE.keySet()) {
            if (!SHOWN.contains(name)) {
                fault("no example calls " + name);
            }
        }
        for (String name : REFUSALS.keySet()) {
            if (!SHOWN.contains(name)) {
                fault("no example answers " + name);
            }
        }
        if (asked > MOST_CALLS) {
            fault("the examples ask one object too often");
        }
    }

    private static void showsAnswers(String line) throws Exception {
        Matcher form = CALLS.matcher(line);
        if (!form.matches() || object == null) {
            fault("neither calls with their answers nor a new object: " + line);
            return;
        }
        String[] answers = form.group(2).trim().split(", ");
        Matcher call = CALL.matcher(form.group(1));
        int at = 0;
        for (; call.find(); at++) {
            String shown = at < answers.length ? answers[at] : "nothing";
            String got = answer(call.group(1), call.group(2));
            asked++;
            if (!got.equals(valueOf(shown))) {
                fault(call.group() + " answers " + got + ", but " + shown + " is shown");
            }
        }
        if (at != answers.length) {
            fault(at + " calls, but " + answers.length + " answers: " + line);
        }
    }

    private static String valueOf(String shown) {
        SHOWN.add(shown);
        return REFUSALS.containsKey(shown) ? String.valueOf(REFUSALS.get(shown)) : shown;
    }

    private static String answer(String name, String numbers) throws IllegalAccessException, InvocationTargetException {
        SHOWN.add(name);
        String[] parts = numbers.isBlank() ? new String[0] : numbers.split(", ");
        Method method = FACE.get(name);
        if (method == null || method.getParameterCount() != parts.length) {
            return "no such call";
        }
        Object[] a = new Object[parts.length];
        for (int i = 0; i < a.length; i++) {
            a[i] = Integer.parseInt(parts[i]);
        }
        return String.valueOf(method.invoke(object, a));
    }

    /** The table has the document's promises, in its order, with the class's calls. */
    private static void showsEveryCall(List<String> lines) throws IOException {
        List<String> shown = new ArrayList<>();
        for (String line : lines) {
            Matcher row = TABLE_ROW.matcher(line);
            if (row.matches()) {
                int parameters = row.group(3).isEmpty() ? 0 : row.group(3).split(", ").length;
                shown.add(row.group(1) + " " + row.group(2) + "/" + parameters);
            }
        }
        List<String> due = new ArrayList<>();
        for (String line : Files.readAllLines(Path.of("../shared/DOC.md"), StandardCharsets.UTF_8)) {
            Matcher heading = PROMISE.matcher(line);
            if (heading.matches()) {
                Method method = FACE.get(heading.group(2));
                String call = method == null ? "RigidRanks/0" : method.getName() + "/" + method.getParameterCount();
                due.add(heading.group(1) + " " + call);
            }
        }
        if (due.size() != PROMISES || !shown.equals(due)) {
            fault("the table has " + shown + ", due is " + due);
        }
    }

    // ---- how to run its tests ----

    private static void showsTests(List<String> lines) throws IOException, InterruptedException {
        List<List<String>> commands = blocks(lines, "sh");
        if (commands.size() != 2 || !commands.get(0).equals(List.of(".ci/run"))) {
            fault("first .ci/run is shown, then how to run one test, not " + commands);
            return;
        }
        if (!Files.isExecutable(Path.of(".ci/run"))) {
            fault(".ci/run can't be run");
        }
        // .ci/run itself is what runs this test, so only the other commands are done here.
        Process process = new ProcessBuilder("sh", "-e", "-c", String.join("\n", commands.get(1)))
                .redirectErrorStream(true).start();
        String said = new String(process.getInputStream().readAllBytes(), StandardCharsets.UTF_8);
        if (process.waitFor() != 0) {
            fault("the commands for one test failed: " + said);
        }
        namesEachTest(lines);
    }

    private static void namesEachTest(List<String> lines) throws IOException {
        TreeSet<String> named = new TreeSet<>();
        for (String line : lines) {
            Matcher item = Pattern.compile("- `(\\w+)`: .*").matcher(line);
            if (item.matches()) {
                named.add(item.group(1));
            }
        }
        TreeSet<String> there = new TreeSet<>();
        try (DirectoryStream<Path> files = Files.newDirectoryStream(Path.of("src/test/java"), "*.java")) {
            files.forEach(file -> there.add(file.getFileName().toString().replace(".java", "")));
        }
        if (!named.equals(there)) {
            fault("it names the tests " + named + ", there are " + there);
        }
    }
}
