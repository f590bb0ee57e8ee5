import java.io.IOException;
import java.lang.reflect.Method;
import java.lang.reflect.Modifier;
import java.net.URL;
import java.net.URLClassLoader;
import java.nio.file.Files;
import java.nio.file.Path;
import java.util.ArrayList;
import java.util.List;
import java.util.TreeSet;
import java.util.regex.Matcher;
import java.util.regex.Pattern;
import java.util.stream.Stream;
import javax.tools.JavaCompiler;
import javax.tools.ToolProvider;

/** What README.md says of the class is so: its examples, its table of calls, the findings' numbers. */
public final class ReadmeTest {
    private static final Pattern EXAMPLE = Pattern.compile("(?s)```java\n(.*?)```");
    private static final Pattern ANSWER = Pattern.compile("^(?:int (\\w+) = )?(x\\.\\w+\\(.*\\)); +// (-?\\d+)\\b.*$");
    private static final Pattern CALL = Pattern.compile("(?m)^\\| `([^`]+)` \\| [^|]+ \\|([^|]*)\\|$");
    private static final String FINDINGS = "BEYOND FULL KIND NONE STATE MISSING SIZE";

    /** Calls of the examples, as they are told there, and the answers told behind them. */
    private static final List<String> CALLS = new ArrayList<>();
    private static final List<Long> TOLD = new ArrayList<>();

    public static void main(String[] args) throws Exception {
        String root = System.getProperty("yearwords.root", ".");
        String page = Files.readString(Path.of(root, "README.md"));
        examples(page);
        table(page, Files.readString(Path.of(root, "../shared/DOC.md")));
        findings(page);
        Due.end("ReadmeTest");
    }

    private static void examples(String page) throws Exception {
        List<Long> answers = answersOf(program(page));
        Due.is("answers of the examples", answers.size(), TOLD.size());
        for (int i = 0; i < Math.min(answers.size(), TOLD.size()); i++) {
            Due.is("README.md: " + CALLS.get(i), answers.get(i), TOLD.get(i));
        }
    }

    /** The examples as one program; a call with an answer behind it hands its answer on. */
    private static String program(String page) {
        StringBuilder b = new StringBuilder("public final class ReadmeExamples {\n"
            + "public static void run(java.util.List<Long> answers) {\n");
        Matcher example = EXAMPLE.matcher(page);
        while (example.find()) {
            b.append("{\n");
            for (String line : example.group(1).split("\n")) {
                b.append(handingOn(line)).append('\n');
            }
            b.append("}\n");
        }
        return b.append("}\n}\n").toString();
    }

    private static String handingOn(String line) {
        Matcher m = ANSWER.matcher(line);
        if (!m.find()) {
            Due.holds("no answer is told where none is asked for: " + line, !line.contains("//"));
            return line;
        }
        CALLS.add(m.group(2));
        TOLD.add(Long.parseLong(m.group(3)));
        boolean isNamed = m.group(1) != null;
        String kept = isNamed ? line + "\n" : "";
        return kept + "answers.add((long) " + (isNamed ? m.group(1) : m.group(2)) + ");";
    }

    private static List<Long> answersOf(String program) throws Exception {
        List<Long> answers = new ArrayList<>();
        JavaCompiler compiler = ToolProvider.getSystemJavaCompiler();
        Path out = Files.createTempDirectory("readme");
        try {
            Path source = Files.writeString(out.resolve("ReadmeExamples.java"), program);
            String path = System.getProperty("java.class.path");
            int failed = compiler == null ? 1 : compiler.run(null, null, null, "-cp", path, "-d", out.toString(), source.toString());
            Due.is("faults of compiling the examples", failed, 0);
            if (failed == 0) {
                try (URLClassLoader loader = new URLClassLoader(new URL[] {out.toUri().toURL()})) {
                    loader.loadClass("ReadmeExamples").getMethod("run", List.class).invoke(null, answers);
                }
            }
        } finally {
            remove(out);
        }
        return answers;
    }

    private static void remove(Path directory) throws IOException {
        try (Stream<Path> files = Files.list(directory)) {
            for (Path file : files.toList()) {
                Files.delete(file);
            }
        }
        Files.delete(directory);
    }

    /** Each call of the document's face in its order, with its findings in theirs. */
    private static void table(String page, String document) {
        List<String> calls = new ArrayList<>();
        TreeSet<String> names = new TreeSet<>();
        Matcher m = CALL.matcher(page);
        while (m.find()) {
            String call = m.group(1);
            calls.add(call);
            names.add(call.replaceAll("^\\w+ |\\(.*$", ""));
            Due.holds(call + " has the findings " + findingsOf(call, document) + ", not" + m.group(2),
                m.group(2).trim().equals(findingsOf(call, document)));
        }
        List<String> face = new ArrayList<>();
        Matcher line = Pattern.compile("(?m)^    public ((?:int|long) .*);$").matcher(document);
        while (line.find()) {
            face.add(line.group(1));
        }
        Due.holds("the table has the calls " + face + ", not " + calls, calls.equals(face));
        Due.holds("the table has the class's calls, not " + names, names.equals(publicNames()));
    }

    private static TreeSet<String> publicNames() {
        TreeSet<String> names = new TreeSet<>();
        for (Method method : YearWords.class.getDeclaredMethods()) {
            if (Modifier.isPublic(method.getModifiers())) {
                names.add(method.getName());
            }
        }
        return names;
    }

    /** A finding is told in a promise at the head of a sentence: 'BEYOND.', 'BEYOND: ..' or 'BEYOND (..'. */
    private static String findingsOf(String call, String document) {
        int at = document.indexOf("`" + call + "`: ");
        int end = document.indexOf("\n", Math.max(at, 0));
        String promise = at < 0 ? "NOT FOUND" : document.substring(at + call.length() + 3, end);
        List<String> found = new ArrayList<>();
        Matcher m = Pattern.compile("[.)] (" + FINDINGS.replace(' ', '|') + ")(?=[.:]| \\()").matcher(promise);
        while (m.find()) {
            found.add(m.group(1));
        }
        return String.join(", ", found);
    }

    private static void findings(String page) {
        String[] names = FINDINGS.split(" ");
        for (int f = 0; f < names.length; f++) {
            Due.holds("README.md tells the number of " + names[f], page.contains("| " + (-1000000001 - f) + " | " + names[f] + " |"));
        }
    }
}
