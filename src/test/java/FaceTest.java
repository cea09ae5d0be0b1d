import java.io.IOException;
import java.lang.reflect.Constructor;
import java.lang.reflect.Field;
import java.lang.reflect.Method;
import java.lang.reflect.Modifier;
import java.nio.file.Files;
import java.nio.file.Path;
import java.util.ArrayList;
import java.util.Arrays;
import java.util.List;
import java.util.TreeSet;
import java.util.regex.Matcher;
import java.util.regex.Pattern;

/** The face as the document has it, and what can be seen of LANGUAGE.md's rules in the text of the program. */
public final class FaceTest {
    private static final Check CHECK = new Check();
    private static final Path DOC = Path.of("../shared/DOC.md");
    private static final Path PROGRAM = Path.of("src/main/java/OwnedClouds.java");

    public static void main(String[] args) throws IOException {
        face();
        members();
        text(Files.readString(PROGRAM));
        objects();
        CHECK.end();
    }

    private static void face() throws IOException {
        Matcher told = Pattern.compile("^    public (int|long) (\\w+)\\((.*?)\\)(?: throws (.*?))?;$", Pattern.MULTILINE)
            .matcher(Files.readString(DOC));
        TreeSet<String> due = new TreeSet<>();
        while (told.find()) {
            int many = told.group(3).isEmpty() ? 0 : told.group(3).split(",").length;
            due.add(told.group(1) + " " + told.group(2) + " " + many + " " + (told.group(4) == null ? "" : told.group(4)));
        }
        TreeSet<String> are = new TreeSet<>();
        for (Method method : OwnedClouds.class.getDeclaredMethods()) {
            if (Modifier.isPublic(method.getModifiers())) {
                List<String> thrown = new ArrayList<>();
                Arrays.stream(method.getExceptionTypes()).forEach(e -> thrown.add(e.getSimpleName()));
                are.add(method.getReturnType() + " " + method.getName() + " " + method.getParameterCount() + " "
                    + String.join(", ", thrown));
            }
        }
        CHECK.is("30 methods in the document", 30, () -> due.size());
        CHECK.is("the methods", due.toString(), are.toString());
    }

    private static void members() {
        CHECK.is("final", 1, () -> Modifier.isFinal(OwnedClouds.class.getModifiers()) ? 1 : 0);
        List<String> seen = new ArrayList<>();
        for (Field field : OwnedClouds.class.getDeclaredFields()) {
            if (!Modifier.isPrivate(field.getModifiers())) {
                seen.add(field.getName());
            }
        }
        for (Method method : OwnedClouds.class.getDeclaredMethods()) {
            if (!Modifier.isPublic(method.getModifiers()) && !Modifier.isPrivate(method.getModifiers())) {
                seen.add(method.getName());
            }
        }
        for (Constructor<?> made : OwnedClouds.class.getDeclaredConstructors()) {
            seen.add(made.toString());
        }
        CHECK.is("what can be seen beside", "[NONE, public OwnedClouds()]", seen.toString());
        for (Class<?> inside : OwnedClouds.class.getDeclaredClasses()) {
            int how = inside.getModifiers();
            for (Method method : inside.getDeclaredMethods()) {
                CHECK.is("no name of the face: " + method, 0, () -> Arrays.stream(OwnedClouds.class.getDeclaredMethods())
                    .filter(m -> Modifier.isPublic(m.getModifiers()) && m.getName().equals(method.getName())).count());
            }
            CHECK.is(inside.getName(), 1, () -> Modifier.isStatic(how) && Modifier.isPrivate(how) ? 1 : 0);
            CHECK.is(inside.getName() + " has at most 20 fields", 1, () -> Arrays.stream(inside.getDeclaredFields())
                .filter(field -> !Modifier.isStatic(field.getModifiers())).count() <= 20 ? 1 : 0);
        }
        CHECK.is("at most 12 classes", 1, () -> OwnedClouds.class.getDeclaredClasses().length <= 11 ? 1 : 0);
    }

    private static void text(String program) {
        for (String word : new String[] {"->", "::", "catch", "finally", "synchronized", "assert", "instanceof", "package ",
            "static {", ".equals(", "hashCode", "toString", "\" +", "+ \"", "import java.util.*"}) {
            CHECK.is("nowhere: " + word, -1, () -> program.indexOf(word));
        }
        CHECK.is("one import", 1, () -> program.split("\nimport |^import ").length - 1);
        CHECK.is("ends below 127", -1, () -> program.chars().filter(c -> c > 126).findFirst().orElse(-1));
        // rows are made in constructors alone
        for (String line : program.split("\n")) {
            boolean makes = line.contains("new ") && !line.contains("throw new ") && !line.trim().startsWith("*")
                && !line.trim().startsWith("/");
            CHECK.is("made: " + line, 1, () -> !makes || line.matches("\\s+(\\w+(\\[i\\])? = new .*;)") ? 1 : 0);
        }
    }

    /** All rows are made with the object: calls that are dear to count make none. */
    private static void objects() {
        OwnedClouds x = Check.under("join 2;" + "cloud 0 0 0 0 999;".repeat(6) + "field 0 0 0 99 99 9;");
        x.gauge(0, 0, 999);
        com.sun.management.ThreadMXBean threads =
            (com.sun.management.ThreadMXBean) java.lang.management.ManagementFactory.getThreadMXBean();
        long id = Thread.currentThread().getId();
        threads.getThreadAllocatedBytes(id);
        long before = threads.getThreadAllocatedBytes(id);
        for (int i = 0; i < 100; i++) {
            x.day(i, 0);
            x.cloud(i, 0, 49, 0);
            x.worth(63);
            x.share(3, 0);
            x.settled(99, 0);
            x.drought(99, 0);
            x.explain(0);
            x.doubt(0, 49);
            x.image();
            x.restore();
        }
        long made = threads.getThreadAllocatedBytes(id) - before;
        CHECK.is("bytes made by 1000 calls: " + made, 1, () -> made < 50000 ? 1 : 0);
    }
}
