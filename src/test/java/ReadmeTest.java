import java.io.IOException;
import java.io.StringWriter;
import java.lang.reflect.Field;
import java.lang.reflect.Modifier;
import java.net.URL;
import java.net.URLClassLoader;
import java.nio.file.Files;
import java.nio.file.Path;
import java.util.ArrayList;
import java.util.Comparator;
import java.util.List;
import java.util.regex.Matcher;
import java.util.regex.Pattern;
import java.util.stream.Stream;
import javax.tools.JavaCompiler;
import javax.tools.ToolProvider;

/**
 * README.md against the class: its code compiles and answers as it says there, its commands work, and
 * it names every call with its promise, every constant and every test.
 */
public final class ReadmeTest {
    private static final Due due = new Due("readme");
    private static final Pattern ASKED = Pattern.compile("(?:(?:int|long) (\\w+) = )?(x\\..+);\\s+// (-?\\d+)(?::.*)?");

    private final String page;
    private final Path room;

    private ReadmeTest(String page, Path room) {
        this.page = page;
        this.room = room;
    }

    public static void main(String[] args) throws Exception {
        Path room = Files.createTempDirectory("readme");
        try {
            ReadmeTest test = new ReadmeTest(Files.readString(Path.of("README.md")), room);
            test.code();
            test.commands();
            test.calls();
            test.answers();
            test.tests();
        } finally {
            remove(room);
        }
        due.end();
    }

    private static void remove(Path room) throws IOException {
        try (Stream<Path> all = Files.walk(room)) {
            for (Path path : all.sorted(Comparator.reverseOrder()).toList()) {
                Files.delete(path);
            }
        }
    }

    private List<String> pieces(String language) {
        List<String> found = new ArrayList<>();
        Matcher piece = Pattern.compile("(?s)```" + language + "\n(.*?)```").matcher(page);
        while (piece.find()) {
            found.add(piece.group(1));
        }
        return found;
    }

    // ---- what it shows as code

    private void code() throws Exception {
        StringBuilder body = new StringBuilder();
        int asked = 0;
        for (String line : String.join("", pieces("java")).split("\n")) {
            Matcher call = ASKED.matcher(line);
            if (call.matches()) {
                String kept = call.group(1);
                body.append(kept == null ? "" : "int " + kept + " = " + call.group(2) + ";\n");
                body.append("answers.add(new Object[] {\"").append(call.group(2).replace("\"", "\\\"")).append("\", Long.valueOf(");
                body.append(kept == null ? call.group(2) : kept).append("), ").append(call.group(3)).append("L});\n");
                asked++;
            } else {
                due.holds("the answer is told of: " + line, !line.matches("((int|long) \\w+ = )?x\\..*"));
                body.append(line).append('\n');
            }
        }
        due.holds("calls are shown", asked > 30);
        Path file = room.resolve("Shown.java");
        Files.writeString(file, "public final class Shown {\n    public static void run(java.util.List<Object[]> answers) {\n"
                + body + "    }\n}\n");
        if (compiles(file)) {
            run();
        }
    }

    private boolean compiles(Path file) {
        JavaCompiler compiler = ToolProvider.getSystemJavaCompiler();
        StringWriter said = new StringWriter();
        List<String> options = List.of("--release", "17", "-Xlint:all", "-Werror", "-d", room.toString(), "-cp",
                System.getProperty("java.class.path"));
        var files = compiler.getStandardFileManager(null, null, null).getJavaFileObjects(file);
        boolean compiled = compiler.getTask(said, null, null, options, null, files).call();
        due.holds("the code compiles: " + said, compiled);
        return compiled;
    }

    private void run() throws Exception {
        List<Object[]> answers = new ArrayList<>();
        try (URLClassLoader loader = new URLClassLoader(new URL[] {room.toUri().toURL()})) {
            loader.loadClass("Shown").getMethod("run", List.class).invoke(null, answers);
        }
        for (Object[] answer : answers) {
            due.is((String) answer[0], (Long) answer[1], (Long) answer[2]);
        }
    }

    // ---- what it shows as commands

    private void commands() throws Exception {
        for (String piece : pieces("sh")) {
            if (piece.equals(".ci/run\n")) {
                due.holds(".ci/run can be run", Files.isExecutable(Path.of(".ci/run")));
                continue;
            }
            Matcher shared = Pattern.compile("\\.\\./shared/\\S+").matcher(piece);
            if (shared.find() && !Files.exists(Path.of(shared.group()))) {
                continue; // what is shared may change, and that is no fault of the page
            }
            String command = piece.replace(" build", " " + room.resolve("build"));
            Process run = new ProcessBuilder("sh", "-ec", command).redirectErrorStream(true).start();
            String said = new String(run.getInputStream().readAllBytes());
            due.is(command + said, run.waitFor(), 0);
        }
        due.is("commands: all tests, one, one that is shared", pieces("sh").size(), 3);
    }

    // ---- what it names

    /** The lines of the table below a heading, without the two at its top, each split into its cells. */
    private List<String[]> table(String heading) {
        List<String[]> rows = new ArrayList<>();
        String below = page.substring(page.indexOf("\n" + heading + "\n"));
        for (String line : below.substring(below.indexOf("\n|") + 1).split("\n")) {
            if (!line.startsWith("|")) {
                break;
            }
            rows.add(line.substring(2).split(" \\|( |$)"));
        }
        return rows.subList(2, rows.size());
    }

    private static List<String> quotedIn(String cell) {
        List<String> names = new ArrayList<>();
        Matcher name = Pattern.compile("`([^`]+)`").matcher(cell);
        while (name.find()) {
            names.add(name.group(1));
        }
        return names;
    }

    private void calls() throws Exception {
        List<String> named = new ArrayList<>();
        for (String[] row : table("### All calls")) {
            int first = named.size() + 2;
            named.addAll(quotedIn(row[0]));
            int last = named.size() + 1;
            String promises = last == first ? "" + first : first + (last == first + 1 ? ", " : " to ") + last;
            due.holds("promises " + promises + " of " + row[0], row[2].equals(promises));
        }
        List<String> promised = new ArrayList<>();
        Matcher heading = Pattern.compile("(?m)^## Promise \\d+: (\\w+)$").matcher(Files.readString(Path.of("../shared/DOC.md")));
        while (heading.find()) {
            promised.add(heading.group(1));
        }
        due.holds("all calls are named: " + named, named.equals(promised));
    }

    private void answers() throws Exception {
        List<String[]> rows = table("## Answers below 0");
        for (Field f : HollowSteps.class.getDeclaredFields()) {
            if (Modifier.isPublic(f.getModifiers())) {
                String value = "" + f.getInt(null);
                String name = "`" + f.getName() + "`";
                due.holds(name + " is told", rows.stream().anyMatch(row -> row[0].equals(value) && row[1].equals(name)));
            }
        }
        for (String value : List.of("-11", "-12", "-13", "-14", "-100 and less", "`Long.MIN_VALUE`")) {
            due.holds(value + " is told", rows.stream().anyMatch(row -> row[0].equals(value)));
        }
    }

    private void tests() throws IOException {
        List<String> named = new ArrayList<>();
        for (String[] row : table("## Tests")) {
            named.addAll(quotedIn(row[0]));
        }
        named.sort(null);
        try (Stream<Path> files = Files.list(Path.of("src/test/java"))) {
            List<String> there = files.map(f -> f.getFileName().toString()).filter(f -> f.endsWith("Test.java"))
                    .map(f -> f.substring(0, f.length() - 5)).sorted().toList();
            due.holds("the tests are named: " + named + ", there are " + there, named.equals(there));
        }
    }
}
