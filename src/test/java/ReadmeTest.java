import java.lang.reflect.Method;
import java.lang.reflect.Modifier;
import java.net.URL;
import java.net.URLClassLoader;
import java.nio.file.Files;
import java.nio.file.Path;
import java.util.ArrayList;
import java.util.List;
import java.util.Map;
import java.util.concurrent.Callable;
import java.util.regex.Matcher;
import java.util.regex.Pattern;
import java.util.stream.Stream;
import javax.tools.ToolProvider;

/** The run of calls in README.md: it compiles as it stands there, and answers what it says of each call. */
public final class ReadmeTest implements Answers {
    /** A call outside of a loop, its answer perhaps kept under a name, and the remark behind it. */
    private static final Pattern CALL = Pattern.compile("(int (\\w+) = )?(x\\.\\w+\\(.*\\));(?: +// (-?\\w+)\\b.*)?");
    private static final Map<String, Integer> NAMES =
        Map.of("NONE", NONE, "UNKNOWN", UNKNOWN, "OUTSIDE", OUTSIDE, "NOT", NOT, "FULL", FULL);
    private static final int CALLS_OF_THE_FACE = 34;

    private final List<String> calls = new ArrayList<>();
    private final List<Integer> due = new ArrayList<>();
    private final StringBuilder body = new StringBuilder();

    public static void main(String[] args) throws Exception {
        String page = Files.readString(Path.of("README.md"));
        ReadmeTest test = new ReadmeTest();
        test.read(page);
        test.compare(test.run());
        everyCallIsShown(page);
        refusalsByTheirNumbers(page);
        Due.end("ReadmeTest");
    }

    private void read(String page) {
        Matcher block = Pattern.compile("(?s)```java\n(.*?)```").matcher(page);
        while (block.find()) {
            for (String line : block.group(1).split("\n")) {
                takeLine(line);
            }
        }
        Due.holds("README.md has calls", !calls.isEmpty());
    }

    private void takeLine(String line) {
        Matcher call = CALL.matcher(line);
        if (!call.matches()) {
            Due.holds("README.md: a call is read as one: " + line, !line.matches("(int .*)?x\\..*"));
            body.append(line).append('\n');
            return;
        }
        String answer = call.group(4);
        Due.holds("README.md tells an answer: " + line, answer != null && isAnswer(answer));
        calls.add(call.group(3));
        due.add(answer == null || !isAnswer(answer) ? LEAST : valueOf(answer));
        if (call.group(2) == null) {
            body.append("answers.add(").append(call.group(3)).append(");\n");
        } else {
            body.append(line).append("\nanswers.add(").append(call.group(2)).append(");\n");
        }
    }

    private static boolean isAnswer(String word) {
        return NAMES.containsKey(word) || word.matches("-?\\d{1,9}");
    }

    private static int valueOf(String answer) {
        return NAMES.containsKey(answer) ? NAMES.get(answer) : Integer.parseInt(answer);
    }

    private List<Integer> run() throws Exception {
        Path dir = Files.createTempDirectory("readme");
        try {
            Path source = dir.resolve("ReadmeRun.java");
            Files.writeString(source, "public final class ReadmeRun"
                + " implements java.util.concurrent.Callable<java.util.List<Integer>> {\n"
                + "public java.util.List<Integer> call() {\n"
                + "java.util.List<Integer> answers = new java.util.ArrayList<>();\n"
                + body + "return answers;\n}\n}\n");
            int failed = ToolProvider.getSystemJavaCompiler().run(null, null, null, "-encoding", "UTF-8",
                "-cp", System.getProperty("java.class.path"), "-d", dir.toString(), source.toString());
            Due.is("README.md compiles", failed, 0);
            return failed == 0 ? answersOf(dir) : List.of();
        } finally {
            remove(dir);
        }
    }

    private static List<Integer> answersOf(Path dir) throws Exception {
        try (URLClassLoader loader = new URLClassLoader(new URL[] {dir.toUri().toURL()})) {
            Object run = loader.loadClass("ReadmeRun").getConstructor().newInstance();
            List<Integer> answers = new ArrayList<>();
            for (Object answer : (List<?>) ((Callable<?>) run).call()) {
                answers.add((Integer) answer);
            }
            return answers;
        }
    }

    private static void remove(Path dir) throws Exception {
        try (Stream<Path> files = Files.list(dir)) {
            for (Path file : files.toList()) {
                Files.delete(file);
            }
        }
        Files.delete(dir);
    }

    private void compare(List<Integer> answers) {
        Due.is("answers of README.md's calls", answers.size(), calls.size());
        for (int i = 0; i < Math.min(answers.size(), calls.size()); i++) {
            Due.is("README.md: " + calls.get(i), answers.get(i), due.get(i));
        }
    }

    private static void everyCallIsShown(String page) {
        int shown = 0;
        for (Method method : KissGates.class.getDeclaredMethods()) {
            if (Modifier.isPublic(method.getModifiers())) {
                shown++;
                Due.holds("README.md shows " + method.getName(), page.contains("x." + method.getName() + "("));
            }
        }
        Due.is("calls of the face", shown, CALLS_OF_THE_FACE);
    }

    private static void refusalsByTheirNumbers(String page) {
        for (String name : List.of("UNKNOWN", "OUTSIDE", "NOT", "FULL")) {
            Due.holds("README.md tells the number of " + name,
                Pattern.compile("`" + name + "`\\s+\\(" + NAMES.get(name) + "\\b").matcher(page).find());
        }
    }
}
