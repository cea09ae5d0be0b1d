import java.io.IOException;
import java.lang.reflect.Method;
import java.lang.reflect.Modifier;
import java.net.URL;
import java.net.URLClassLoader;
import java.nio.file.Files;
import java.nio.file.Path;
import java.util.ArrayList;
import java.util.Arrays;
import java.util.List;
import java.util.TreeSet;
import java.util.regex.Matcher;
import java.util.regex.Pattern;
import java.util.stream.Collectors;
import java.util.stream.Stream;
import javax.tools.ToolProvider;

/** README.md: its Java blocks compile and answer as it says; its tables keep to the document, the face and the tests. */
public final class ReadmeTest {
    private static final Check CHECK = new Check();
    private static final Path README = Path.of("README.md");
    private static final Path DOC = Path.of("../shared/DOC.md");
    private static final Path TESTS = Path.of("src/test/java");
    private static final Pattern BLOCK = Pattern.compile("^```(\\w+)\n(.*?)^```$", Pattern.MULTILINE | Pattern.DOTALL);
    private static final Pattern ENDED = Pattern.compile("(.*?;)(?:\\s+// (.*))?");
    private static final Pattern DUE = Pattern.compile("(NONE|-?\\d+|throws \\w+)(?:: .*)?");
    private static final Pattern ROW = Pattern.compile("^\\| (\\d+) \\| `(\\w+)\\((.*?)\\)` \\| (.*) \\| (.*) \\|$",
        Pattern.MULTILINE);

    private final String readme;
    private final String document;
    private final StringBuilder methods = new StringBuilder();
    private final StringBuilder calls = new StringBuilder();
    private final List<String> shown = new ArrayList<>();
    private final List<String> dues = new ArrayList<>();

    private ReadmeTest() throws IOException {
        readme = Files.readString(README);
        document = flat(Files.readString(DOC));
    }

    public static void main(String[] args) throws IOException, ReflectiveOperationException {
        ReadmeTest test = new ReadmeTest();
        test.readBlocks();
        test.runBlocks();
        test.everyCallIsShown();
        test.rows();
        test.quotes();
        test.command();
        test.tests();
        CHECK.end();
    }

    private static String flat(String text) {
        return text.replaceAll("\\s+", " ");
    }

    private void readBlocks() {
        Matcher block = BLOCK.matcher(readme);
        while (block.find()) {
            if (block.group(1).equals("java") && block.group(2).startsWith("/**")) {
                methods.append(block.group(2));
            } else if (block.group(1).equals("java")) {
                readStatements(block.group(2));
            }
        }
    }

    private void readStatements(String block) {
        StringBuilder statement = new StringBuilder();
        for (String line : block.split("\n")) {
            Matcher ended = ENDED.matcher(line);
            boolean ends = ended.matches();
            statement.append(ends ? ended.group(1) : line).append('\n');
            if (ends) {
                addStatement(statement.toString().trim(), ended.group(2));
                statement.setLength(0);
            }
        }
        String open = statement.toString().trim();
        CHECK.is("a block ends with a statement", "", open);
    }

    /** A call is put where its answer, or the name of what it throws, is kept as the next one told. */
    private void addStatement(String statement, String told) {
        if (told == null) {
            CHECK.is("without an answer", "OwnedClouds x = new OwnedClouds();", statement);
            calls.append(statement).append('\n');
            return;
        }
        Matcher due = DUE.matcher(told);
        boolean read = due.matches();
        CHECK.is(statement + " has an answer: " + told, "true", Boolean.toString(read));
        shown.add(statement);
        dues.add(read ? due.group(1).replace("NONE", "-1") : "");
        String call = statement.substring(0, statement.length() - 1);
        calls.append("try { told.add(Long.toString(").append(call).append(")); }\n");
        calls.append("catch (RuntimeException e) { told.add(\"throws \" + e.getClass().getSimpleName()); }\n");
    }

    private void runBlocks() throws IOException, ReflectiveOperationException {
        Path made = Files.createTempDirectory("readme");
        Path source = made.resolve("ReadmeRun.java");
        Path compiled = made.resolve("ReadmeRun.class");
        try {
            Files.writeString(source, "public final class ReadmeRun {\n" + methods
                + "public static java.util.List<String> run() {\njava.util.List<String> told = new java.util.ArrayList<>();\n"
                + calls + "return told;\n}\n}\n");
            int failed = ToolProvider.getSystemJavaCompiler().run(null, null, null, "-Xlint:all", "-Werror", "-cp",
                System.getProperty("java.class.path"), "-d", made.toString(), source.toString());
            CHECK.is("javac of the blocks", 0, () -> failed);
            if (failed == 0) {
                compare(made);
            }
        } finally {
            Files.deleteIfExists(compiled);
            Files.deleteIfExists(source);
            Files.deleteIfExists(made);
        }
    }

    private void compare(Path made) throws IOException, ReflectiveOperationException {
        try (URLClassLoader loader = new URLClassLoader(new URL[] {made.toUri().toURL()}, ReadmeTest.class.getClassLoader())) {
            List<?> told = (List<?>) loader.loadClass("ReadmeRun").getMethod("run").invoke(null);
            CHECK.is("answers", dues.size(), told::size);
            for (int i = 0; i < told.size(); i++) {
                CHECK.is("README.md: " + shown.get(i), dues.get(i), told.get(i).toString());
            }
        }
    }

    private static List<Method> face() {
        return Arrays.stream(OwnedClouds.class.getDeclaredMethods()).filter(m -> Modifier.isPublic(m.getModifiers()))
            .collect(Collectors.toList());
    }

    private void everyCallIsShown() {
        for (Method method : face()) {
            String start = "x." + method.getName() + "(";
            CHECK.is(start + " is shown", "true", Boolean.toString(shown.stream().anyMatch(s -> s.startsWith(start))));
        }
    }

    /** A row for each call: as the face has it, in the words of its promise. */
    private void rows() {
        TreeSet<String> are = new TreeSet<>();
        Matcher row = ROW.matcher(readme);
        while (row.find()) {
            are.add(row.group(2) + "(" + row.group(3) + ")" + namesIn(row.group(5)));
            String heading = "## Promise " + row.group(1) + ": " + row.group(2) + " ";
            int start = document.indexOf(heading);
            CHECK.is(heading + "stands in the document", "true", Boolean.toString(start >= 0));
            int end = document.indexOf(" ## ", start + 1);
            String promise = start < 0 || end < 0 ? "" : document.substring(start, end);
            quoted(row.group(4), promise);
            CHECK.is(heading + "is quoted", "true", Boolean.toString(row.group(4).startsWith("\"")));
        }
        TreeSet<String> due = new TreeSet<>();
        for (Method method : face()) {
            List<String> thrown = new ArrayList<>();
            Arrays.stream(method.getExceptionTypes()).forEach(e -> thrown.add(e.getSimpleName()));
            due.add(method.getName() + "(" + parameters(method.getName()) + ")" + thrown);
        }
        CHECK.is("the calls", due.toString(), are.toString());
    }

    private static List<String> namesIn(String cell) {
        List<String> names = new ArrayList<>();
        Matcher name = Pattern.compile("`(\\w+)`").matcher(cell);
        while (name.find()) {
            names.add(name.group(1));
        }
        return names;
    }

    private String parameters(String method) {
        Matcher told = Pattern.compile("public (?:int|long) " + method + "\\((.*?)\\)").matcher(document);
        return told.find() ? told.group(1).replace("int ", "") : "not in the document";
    }

    private static void quoted(String text, String from) {
        Matcher quote = Pattern.compile("\"([^\"]+)\"").matcher(text);
        while (quote.find()) {
            String words = quote.group(1);
            CHECK.is("\"" + words + "\" is the document's", "true", Boolean.toString(from.contains(words)));
        }
    }

    private void quotes() {
        quoted(flat(BLOCK.matcher(readme).replaceAll("").replaceAll("`[^`\n]*`", "")), document);
    }

    private void command() {
        CHECK.is("the command", "true", Boolean.toString(readme.contains("\n```sh\nbash .ci/run\n```\n")));
        CHECK.is(".ci/run is there", "true", Boolean.toString(Files.exists(Path.of(".ci/run"))));
    }

    private void tests() throws IOException {
        TreeSet<String> are = new TreeSet<>();
        try (Stream<Path> files = Files.list(TESTS)) {
            files.map(file -> file.getFileName().toString()).filter(name -> name.endsWith("Test.java"))
                .forEach(name -> are.add(name.replace(".java", "")));
        }
        TreeSet<String> named = new TreeSet<>();
        Matcher row = Pattern.compile("^\\| `(\\w+Test)` \\|", Pattern.MULTILINE).matcher(readme);
        while (row.find()) {
            named.add(row.group(1));
        }
        CHECK.is("the tests", are.toString(), named.toString());
    }
}
