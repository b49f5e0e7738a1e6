import java.io.IOException;
import java.lang.reflect.Method;
import java.lang.reflect.Modifier;
import java.net.URL;
import java.net.URLClassLoader;
import java.nio.file.Files;
import java.nio.file.Path;
import java.util.ArrayList;
import java.util.Arrays;
import java.util.Comparator;
import java.util.List;
import java.util.Set;
import java.util.TreeSet;
import java.util.function.LongSupplier;
import java.util.regex.Matcher;
import java.util.regex.Pattern;
import java.util.stream.Collectors;
import java.util.stream.Stream;
import javax.tools.ToolProvider;

/** README.md: its example compiles and answers what it says, and its tables, lists and commands are true. */
public final class ReadmeTest {
    private static final Path TESTS = Path.of("src", "test", "java");
    private static final Path CI = Path.of(".ci", "run");
    private static final Pattern CALL = Pattern.compile("(judge\\.(\\w+)\\(.*\\));\\s+// ([^:]+)(: .*)?");
    private static final String[] FACE = {"feed", "spoil", "clear", "judge", "broken", "many", "segment", "section",
        "letter", "symbols", "symbol", "find"};

    private static List<String> lines;
    private static Path room;

    public static void main(String[] args) throws Exception {
        lines = Files.readAllLines(Path.of("README.md"));
        room = Files.createTempDirectory("readme");
        try {
            exampleAnswersWhatItSays();
            tableIsTheFace();
            whatsAreTold();
            classesInsideAreTold();
            testsAreTold();
            filesAreThere();
            commandForAllIsTheScript();
            commandsForOneAreThoseOfTheScript();
        } finally {
            remove(room);
        }
        Expect.end();
    }

    private static void remove(Path root) throws IOException {
        List<Path> all;
        try (Stream<Path> walk = Files.walk(root)) {
            all = walk.sorted(Comparator.reverseOrder()).collect(Collectors.toList());
        }
        for (Path path : all) {
            Files.delete(path);
        }
    }

    /** The blocks of README.md in one language, each as its lines. */
    private static List<List<String>> blocks(String language) {
        List<List<String>> blocks = new ArrayList<>();
        List<String> open = null;
        for (String line : lines) {
            if (line.equals("```" + language)) {
                open = new ArrayList<>();
                blocks.add(open);
            } else if (line.equals("```")) {
                open = null;
            } else if (open != null) {
                open.add(line);
            }
        }
        return blocks;
    }

    private static void exampleAnswersWhatItSays() throws Exception {
        Set<String> shown = new TreeSet<>();
        String body = blocks("java").stream().flatMap(List::stream).map(line -> checked(line, shown))
            .collect(Collectors.joining("\n"));
        Expect.same("every call is shown", new TreeSet<>(Arrays.asList(FACE)).toString(), shown.toString());
        Path source = room.resolve("ReadmeExample.java");
        Files.writeString(source, "public final class ReadmeExample implements Runnable {\npublic void run() {\n"
            + body + "\n}\n}\n");
        int code = ToolProvider.getSystemJavaCompiler().run(null, null, null, "--release", "17", "-Xlint:all",
            "-Werror", "-cp", System.getProperty("java.class.path"), "-d", room.toString(), source.toString());
        Expect.same("the example compiles", "0", Integer.toString(code));
        if (code == 0) {
            try (URLClassLoader loader = new URLClassLoader(new URL[] {room.toUri().toURL()})) {
                ((Runnable) loader.loadClass("ReadmeExample").getConstructor().newInstance()).run();
            }
        }
    }

    /** A line of the example; one that tells an answer is made to compare it. */
    private static String checked(String line, Set<String> shown) {
        Matcher call = CALL.matcher(line);
        if (!call.matches()) {
            return line;
        }
        shown.add(call.group(2));
        String due = call.group(3).trim();
        boolean isWord = due.equals("void") || due.endsWith("Exception");
        String asText = isWord ? "\"" + due + "\"" : "Long.toString(" + due + ")";
        return "ReadmeTest.due(\"" + call.group(1) + "\", " + asText + ", () -> " + call.group(1) + ");";
    }

    /** Called by the example, which another loader has loaded: hence public. */
    public static void due(String call, String due, LongSupplier answer) {
        Expect.same("the example's " + call, throwsOrAnswer(due), Expect.told(answer::getAsLong));
    }

    /** For the calls without an answer. */
    public static void due(String call, String due, Runnable run) {
        boolean nothing = due.equals("void");
        Expect.same("the example's " + call, nothing ? "0" : throwsOrAnswer(due), Expect.told(() -> {
            run.run();
            return 0;
        }));
    }

    private static String throwsOrAnswer(String due) {
        return due.endsWith("Exception") ? "throws." + due : due;
    }

    private static void tableIsTheFace() {
        Set<String> told = new TreeSet<>();
        for (String line : lines) {
            if (line.startsWith("| `")) {
                String[] cells = line.split("\\|");
                told.add(inMarks(cells[1]).get(0).replaceAll(" \\w+([,)])", "$1") + " " + inMarks(cells[3]));
            }
        }
        Set<String> due = new TreeSet<>();
        for (Method m : FileJudge.class.getDeclaredMethods()) {
            if (Modifier.isPublic(m.getModifiers())) {
                due.add(m.getReturnType() + " " + m.getName() + names(m.getParameterTypes(), "(", ")")
                    + " " + names(m.getExceptionTypes(), "[", "]"));
            }
        }
        Expect.same("the table of calls", due.toString(), told.toString());
    }

    private static String names(Class<?>[] types, String before, String behind) {
        return Arrays.stream(types).map(Class::getSimpleName).collect(Collectors.joining(", ", before, behind));
    }

    /** What stands between marks of code. */
    private static List<String> inMarks(String text) {
        List<String> found = new ArrayList<>();
        Matcher code = Pattern.compile("`([^`]+)`").matcher(text);
        while (code.find()) {
            found.add(code.group(1));
        }
        return found;
    }

    /** The words behind the numbers, against a file whose numbers are known by these words. */
    private static void whatsAreTold() {
        FileJudge x = Sample.full().judged();
        whats("many", "segments=1, sections=6", x::many);
        whats("segment", "kind=1, flags=5, place=0, address=4096, length in the file=616, length in memory=768, "
            + "alignment=4096", what -> x.segment(0, what));
        whats("section", "kind=1, flags=-2, place=600, length=16, link=7, info=9, characters of the name=5",
            what -> x.section(4, what));
        whats("symbol", "value=-9223372036854775808, size=77, section=65521, binding=15, characters of the name=1",
            what -> x.symbol(3, 2, what));
    }

    private interface Question {
        long ask(int what);
    }

    private static void whats(String call, String due, Question question) {
        String start = "- `" + call + "`: ";
        String line = lines.stream().filter(l -> l.startsWith(start)).collect(Collectors.joining());
        Matcher entry = Pattern.compile("(\\d+) ([^,.]+)[,.]").matcher(line.replace(start, ""));
        List<String> told = new ArrayList<>();
        while (entry.find()) {
            int what = Integer.parseInt(entry.group(1));
            told.add(entry.group(2) + "=" + Expect.told(() -> question.ask(what)));
        }
        Expect.same("what " + call + " may be asked", due, String.join(", ", told));
        Expect.noArgument(call + " asked for more", () -> question.ask(told.size()));
    }

    private static void classesInsideAreTold() {
        Set<String> due = Arrays.stream(FileJudge.class.getDeclaredClasses()).map(Class::getSimpleName)
            .collect(Collectors.toCollection(TreeSet::new));
        Set<String> told = new TreeSet<>();
        for (String line : part("## Inside")) {
            told.addAll(inMarks(line));
        }
        Expect.same("the classes inside", due.toString(), told.toString());
    }

    private static List<String> part(String title) {
        int from = lines.indexOf(title) + 1;
        int to = from;
        while (to < lines.size() && !lines.get(to).startsWith("## ")) {
            to++;
        }
        return lines.subList(from, to);
    }

    private static void testsAreTold() throws IOException {
        Set<String> told = new TreeSet<>();
        for (String line : part("## Tests")) {
            inMarks(line).stream().filter(code -> code.matches("[A-Z]\\w+")).forEach(told::add);
        }
        Set<String> due;
        try (Stream<Path> files = Files.list(TESTS)) {
            due = files.map(f -> f.getFileName().toString().replace(".java", ""))
                .collect(Collectors.toCollection(TreeSet::new));
        }
        Expect.same("the tests and their helpers", due.toString(), told.toString());
    }

    /** Only the project's own: what lies beside it is not ours to look at. */
    private static void filesAreThere() {
        for (String line : lines) {
            for (String code : inMarks(line)) {
                if (code.contains("/") && !code.contains("*") && !code.startsWith("../")) {
                    Expect.same(code + " is there", "true", Boolean.toString(Files.exists(Path.of(code))));
                }
            }
        }
    }

    private static void commandForAllIsTheScript() {
        Expect.same("the command for all tests", List.of(".ci/run").toString(), blocks("sh").get(0).toString());
        Expect.same("it can be run", "true", Boolean.toString(Files.isExecutable(CI)));
    }

    private static void commandsForOneAreThoseOfTheScript() throws Exception {
        List<String> commands = blocks("sh").get(1);
        List<String> script = Files.readAllLines(CI).stream().map(String::trim).collect(Collectors.toList());
        String last = commands.get(commands.size() - 1);
        for (String command : commands.subList(0, commands.size() - 1)) {
            Expect.same(".ci/run runs: " + command, "true", Boolean.toString(script.contains(command)));
        }
        Expect.same("one test is run", "true", Boolean.toString(last.matches("java -cp \"\\$out/own\" \\w+Test")));
        ProcessBuilder builder = new ProcessBuilder("sh", "-e", "-c", String.join("\n", commands));
        builder.environment().put("TMPDIR", room.toString());
        Process process = builder.redirectErrorStream(true).start();
        String said = new String(process.getInputStream().readAllBytes());
        Expect.same("the commands for one test: " + said, "0", Integer.toString(process.waitFor()));
    }
}
