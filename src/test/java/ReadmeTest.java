import java.io.ByteArrayOutputStream;
import java.io.PrintStream;
import java.lang.reflect.Method;
import java.lang.reflect.Modifier;
import java.net.URL;
import java.net.URLClassLoader;
import java.nio.file.Files;
import java.nio.file.Path;
import java.util.ArrayList;
import java.util.Comparator;
import java.util.List;
import java.util.Set;
import java.util.TreeSet;
import java.util.regex.Matcher;
import java.util.regex.Pattern;
import java.util.stream.Stream;
import javax.tools.ToolProvider;

/** What README.md shows: its Java is compiled and run, and each answer is compared with the one that it shows. */
public final class ReadmeTest {
    private static final Pattern OPENING = Pattern.compile("ShowRoom room = (new ShowRoom\\(\\)|open\\(\"[^\"]*\"\\));");
    private static final Pattern CALLS = Pattern.compile("(room\\..*;|int .*;)\\s+// (-?\\d+(?:, -?\\d+)*)\\b.*");
    private static final Pattern CALL = Pattern.compile("(?:int (\\w+) = )?(room\\.(\\w+)\\([^;]*\\))");
    private static final Pattern TOLD = Pattern.compile("(?m)^\\| `(\\w+\\([^)]*\\))` \\|");
    private static final Pattern FACE = Pattern.compile("(?m)^    public (?:int|long) (\\w+)\\(([^)]*)\\);");
    private static final Due DUE = new Due("ReadmeTest");

    /** The lines between two fences, and where they stand. */
    private record Block(String kind, int first, List<String> lines) {
        boolean isProgram() {
            return kind.equals("java") && lines.get(0).startsWith("public final class ");
        }

        boolean isHelper() {
            return kind.equals("java") && lines.get(0).startsWith("static ");
        }

        boolean isRun() {
            return kind.equals("java") && !isProgram() && !isHelper();
        }

        String text() {
            return String.join("\n", lines) + "\n";
        }
    }

    private final Path out;
    private final Set<String> shown = new TreeSet<>();

    private ReadmeTest(Path out) {
        this.out = out;
    }

    public static void main(String[] args) throws Exception {
        Path root = Path.of(args.length > 0 ? args[0] : ".");
        List<String> lines = Files.readAllLines(root.resolve("README.md"));
        List<Block> blocks = blocks(lines);
        Path out = Files.createTempDirectory("readme");
        try {
            ReadmeTest test = new ReadmeTest(out);
            test.programs(blocks);
            test.runs(blocks);
            test.calls(root, String.join("\n", lines));
        } finally {
            remove(out);
        }
        names(root, String.join("\n", lines));
        DUE.end();
    }

    private static void holds(String what, boolean so) {
        DUE.is(what, so ? 1 : 0, 1);
    }

    private static List<Block> blocks(List<String> lines) {
        List<Block> found = new ArrayList<>();
        Block open = null;
        for (int i = 0; i < lines.size(); i++) {
            String line = lines.get(i);
            if (!line.startsWith("```")) {
                if (open != null) {
                    open.lines().add(line);
                }
            } else if (open == null) {
                open = new Block(line.substring(3), i + 2, new ArrayList<>());
            } else {
                found.add(open);
                open = null;
            }
        }
        holds("each block is closed", open == null);
        return found;
    }

    // ---- the Java of the page

    /** A whole program writes what the next block of text shows. */
    private void programs(List<Block> blocks) throws Exception {
        int count = 0;
        for (int i = 0; i + 1 < blocks.size(); i++) {
            if (!blocks.get(i).isProgram()) {
                continue;
            }
            count++;
            String name = blocks.get(i).lines().get(0).split(" ")[3];
            Class<?> program = compiled(name, blocks.get(i).text());
            if (program != null) {
                holds("what " + name + " writes stands behind it", written(program).equals(blocks.get(i + 1).text()));
            }
        }
        holds("a whole program is shown", count > 0);
    }

    private static String written(Class<?> program) throws Exception {
        PrintStream usual = System.out;
        ByteArrayOutputStream bytes = new ByteArrayOutputStream();
        try (PrintStream caught = new PrintStream(bytes, true)) {
            System.setOut(caught);
            program.getMethod("main", String[].class).invoke(null, (Object) new String[0]);
        } finally {
            System.setOut(usual);
        }
        return bytes.toString().replace("\r\n", "\n");
    }

    /** All other blocks become methods of one class, which keeps line, answer and the answer that is due. */
    private void runs(List<Block> blocks) throws Exception {
        StringBuilder source = new StringBuilder("public final class ReadmeRuns {\n"
                + "public static final java.util.List<long[]> ANSWERS = new java.util.ArrayList<>();\n"
                + "static void due(long line, long got, long want) { ANSWERS.add(new long[] {line, got, want}); }\n");
        StringBuilder all = new StringBuilder("public static void run() {\n");
        for (Block block : blocks) {
            if (block.isHelper()) {
                source.append(block.text());
            } else if (block.isRun()) {
                all.append("run").append(block.first()).append("();\n");
                source.append(asMethod(block));
            }
        }
        Class<?> made = compiled("ReadmeRuns", source.append(all).append("}\n}\n").toString());
        if (made == null) {
            return;
        }
        made.getMethod("run").invoke(null);
        for (Object one : (List<?>) made.getField("ANSWERS").get(null)) {
            long[] answer = (long[]) one;
            DUE.is("the call in line " + answer[0] + " of README.md", answer[1], answer[2]);
        }
    }

    private String asMethod(Block block) {
        StringBuilder body = new StringBuilder("static void run" + block.first() + "() {\n");
        for (int i = 0; i < block.lines().size(); i++) {
            String line = block.lines().get(i);
            if (OPENING.matcher(line).matches()) {
                body.append(line).append('\n');
            } else {
                body.append(asked(block.first() + i, line));
            }
        }
        return body.append("}\n").toString();
    }

    /** A line of calls, each compared with its answer; no call may stand without one. */
    private String asked(int number, String line) {
        Matcher parts = CALLS.matcher(line);
        if (!parts.matches()) {
            DUE.fail("line " + number + " of README.md is no call with its answer: " + line);
            return "";
        }
        String[] calls = parts.group(1).split("; *");
        String[] answers = parts.group(2).split(", ");
        holds("line " + number + " of README.md has an answer for each call", calls.length == answers.length);
        StringBuilder body = new StringBuilder();
        for (int i = 0; i < Math.min(calls.length, answers.length); i++) {
            Matcher call = CALL.matcher(calls[i]);
            if (!call.matches()) {
                DUE.fail("line " + number + " of README.md has something else than calls: " + calls[i]);
                continue;
            }
            shown.add(call.group(3));
            String answered = call.group(1) == null ? call.group(2) : call.group(1);
            body.append(call.group(1) == null ? "" : calls[i] + "; ");
            body.append("due(" + number + ", " + answered + ", " + answers[i] + "L);\n");
        }
        return body.toString();
    }

    private Class<?> compiled(String name, String source) throws Exception {
        Path file = Files.writeString(out.resolve(name + ".java"), source);
        int code = ToolProvider.getSystemJavaCompiler().run(null, null, null, "-Xlint:all", "-Werror",
                "-cp", System.getProperty("java.class.path"), "-d", out.toString(), file.toString());
        holds(name + " of README.md compiles", code == 0);
        if (code != 0) {
            return null;
        }
        URL[] where = {out.toUri().toURL()};
        try (URLClassLoader loader = new URLClassLoader(where, ReadmeTest.class.getClassLoader())) {
            return Class.forName(name, true, loader);
        }
    }

    private static void remove(Path directory) throws Exception {
        try (Stream<Path> paths = Files.walk(directory)) {
            for (Path path : paths.sorted(Comparator.reverseOrder()).toList()) {
                Files.delete(path);
            }
        }
    }

    // ---- whether all is told

    /** Each call is told with the document's names, and shown with an answer. */
    private void calls(Path root, String page) throws Exception {
        Set<String> told = new TreeSet<>();
        Matcher row = TOLD.matcher(page);
        while (row.find()) {
            holds(row.group(1) + " is told once", told.add(row.group(1)));
        }
        Set<String> due = new TreeSet<>();
        Matcher face = FACE.matcher(Files.readString(root.resolve("../shared/DOC.md")));
        while (face.find()) {
            due.add(face.group(1) + "(" + face.group(2).replaceAll("\\b(?:int|long|boolean) ", "") + ")");
        }
        holds("the calls that README.md tells are " + told + ", those of the document " + due, told.equals(due));
        for (Method m : ShowRoom.class.getDeclaredMethods()) {
            if (Modifier.isPublic(m.getModifiers())) {
                holds(m.getName() + " is shown with an answer", shown.contains(m.getName()));
            }
        }
    }

    /** The tests that are named are those that there are. */
    private static void names(Path root, String page) throws Exception {
        Set<String> named = new TreeSet<>();
        Matcher name = Pattern.compile("`(\\w+Test)`").matcher(page);
        while (name.find()) {
            named.add(name.group(1));
        }
        Set<String> there = new TreeSet<>();
        try (Stream<Path> files = Files.list(root.resolve("src/test/java"))) {
            files.map(file -> file.getFileName().toString()).filter(file -> file.endsWith("Test.java"))
                    .forEach(file -> there.add(file.replace(".java", "")));
        }
        holds("the tests that README.md names are " + named + ", there are " + there, named.equals(there));
        holds(".ci/run is there", Files.isExecutable(root.resolve(".ci/run")) && page.contains("\n    .ci/run\n"));
    }
}
