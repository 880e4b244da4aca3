import java.io.IOException;
import java.io.StringWriter;
import java.lang.reflect.Method;
import java.lang.reflect.Modifier;
import java.net.URL;
import java.net.URLClassLoader;
import java.nio.file.Files;
import java.nio.file.Path;
import java.util.ArrayList;
import java.util.List;
import java.util.Set;
import java.util.TreeSet;
import java.util.regex.Matcher;
import java.util.regex.Pattern;
import java.util.stream.Collectors;
import java.util.stream.Stream;
import javax.tools.JavaCompiler;
import javax.tools.ToolProvider;

/** What README.md shows of the use of the class compiles, and answers as README.md says. */
public final class ReadmeTest {
    private static final Due due = new Due();
    /** A line of Java with the answer that it says: a call, then two strokes and a number. */
    private static final Pattern SHOWN = Pattern.compile("(\\S.*\\));\\s+// (-?\\d+)(:.*)?");
    private static final Pattern MADE = Pattern.compile("HeardBarrels \\w+ = new HeardBarrels\\(\\);");

    public static void main(String[] args) throws Exception {
        String readme = Files.readString(Path.of("README.md"));
        Shown shown = new Shown(readme);
        answersAreAsShown(shown);
        allCallsAreShown(shown);
        allRefusalsAreShown(shown);
        testsAreNamed(readme);
        filesAreThere(readme);
        wrongPagesAreFound(readme);
        due.end();
    }

    /** The Java that a page shows, as one class, and what each call of it is said to answer. */
    private static final class Shown {
        final List<String> calls = new ArrayList<>();
        final List<Long> answers = new ArrayList<>();
        /** Lines that neither make an object nor say what they answer. */
        final List<String> strange = new ArrayList<>();
        private final StringBuilder methods = new StringBuilder();
        private final StringBuilder body = new StringBuilder();

        Shown(String page) {
            for (String block : blocks(page, "java")) {
                if (block.startsWith("/**")) {
                    methods.append(block);
                } else {
                    block.lines().forEach(this::take);
                }
            }
        }

        private void take(String line) {
            Matcher shown = SHOWN.matcher(line);
            if (shown.matches()) {
                body.append("got[").append(calls.size()).append("] = ").append(shown.group(1)).append(";\n");
                calls.add(shown.group(1));
                answers.add(Long.valueOf(shown.group(2)));
            } else if (MADE.matcher(line).matches()) {
                body.append(line).append('\n');
            } else {
                strange.add(line);
            }
        }

        String source() {
            return "public final class Shown {\npublic static long[] run() {\nlong[] got = new long[" + calls.size()
                    + "];\n" + body + "return got;\n}\n" + methods + "}\n";
        }

        /** What the calls answer, in their order; null: it doesn't compile. */
        long[] run() throws Exception {
            Path room = Files.createTempDirectory("shown");
            try {
                Path source = Files.writeString(room.resolve("Shown.java"), source());
                if (!compiles(source, room)) {
                    return null;
                }
                URL[] at = {room.toUri().toURL()};
                try (URLClassLoader loader = new URLClassLoader(at, ReadmeTest.class.getClassLoader())) {
                    return (long[]) loader.loadClass("Shown").getMethod("run").invoke(null);
                }
            } finally {
                clear(room);
            }
        }
    }

    private static List<String> blocks(String page, String sort) {
        List<String> all = new ArrayList<>();
        Matcher block = Pattern.compile("(?s)\n```" + sort + "\n(.*?)```\n").matcher(page);
        while (block.find()) {
            all.add(block.group(1));
        }
        return all;
    }

    private static boolean compiles(Path source, Path into) {
        JavaCompiler javac = ToolProvider.getSystemJavaCompiler();
        StringWriter complaints = new StringWriter();
        return javac.getTask(complaints, null, null, List.of("-Xlint:all", "-Werror", "-d", into.toString(), "-cp",
                System.getProperty("java.class.path")), null, javac.getStandardFileManager(null, null, null)
                .getJavaFileObjects(source)).call();
    }

    private static void clear(Path room) throws IOException {
        try (Stream<Path> files = Files.list(room)) {
            for (Path file : files.collect(Collectors.toList())) {
                Files.delete(file);
            }
        }
        Files.delete(room);
    }

    private static void answersAreAsShown(Shown shown) throws Exception {
        due.about("README.md");
        due.same("lines that say no answer", shown.strange.toString(), "[]");
        long[] got = shown.run();
        due.is("what it shows compiles", got == null ? 0 : 1, 1);
        for (int i = 0; got != null && i < got.length; i++) {
            due.is(shown.calls.get(i), got[i], shown.answers.get(i));
        }
    }

    private static void allCallsAreShown(Shown shown) {
        Set<String> missing = new TreeSet<>();
        for (Method method : HeardBarrels.class.getDeclaredMethods()) {
            if (Modifier.isPublic(method.getModifiers())) {
                missing.add(method.getName());
            }
        }
        for (String call : shown.calls) {
            missing.remove(call.replaceAll("^x\\.|\\(.*", ""));
        }
        due.same("methods that it doesn't show", missing.toString(), "[]");
    }

    private static void allRefusalsAreShown(Shown shown) {
        Set<Long> missing = new TreeSet<>(Set.of(-1L, -2L, -3L, -4L, -5L, -6L, -7L, -31L, -32L, -33L, -34L, -1000L));
        missing.removeAll(shown.answers);
        due.same("refusals that it doesn't show", missing.toString(), "[]");
    }

    private static void testsAreNamed(String readme) throws IOException {
        Set<String> named = new TreeSet<>();
        Matcher name = Pattern.compile("`(\\w+Test)`").matcher(readme);
        while (name.find()) {
            named.add(name.group(1));
        }
        Set<String> there = new TreeSet<>();
        try (Stream<Path> files = Files.list(Path.of("src/test/java"))) {
            files.map(file -> file.getFileName().toString().replace(".java", "")).filter(file -> file.endsWith("Test"))
                    .forEach(there::add);
        }
        due.same("the tests that it names", named.toString(), there.toString());
    }

    private static void filesAreThere(String readme) {
        Matcher name = Pattern.compile("[\\w./]*/[\\w./]*\\w|`(\\w+\\.md)`").matcher(readme);
        int found = 0;
        while (name.find()) {
            String file = name.group(1) == null ? name.group() : name.group(1);
            due.is(file + " is there", Files.exists(Path.of(file)) ? 1 : 0, 1);
            found++;
        }
        due.is("files were found", Math.min(found, 8), 8);
        due.is(".ci/run can be run", Files.isExecutable(Path.of(".ci/run")) ? 1 : 0, 1);
    }

    /** That this test sees a page that is wrong: an answer, a name, a method, a call without its answer. */
    private static void wrongPagesAreFound(String readme) throws Exception {
        due.about("a changed README.md");
        Shown told = new Shown(readme);
        Shown wrong = new Shown(readme.replaceFirst("// (\\d+:)", "// 1$1"));
        due.is("the first answer is another", told.answers.get(0).equals(wrong.answers.get(0)) ? 1 : 0, 0);
        due.is("answers that are wrong", howManyDiffer(wrong) - howManyDiffer(told), 1);
        Shown misnamed = new Shown(readme.replace("x.count(", "x.counted("));
        due.is("a name that is wrong compiles", howManyDiffer(misnamed), -1);
        Shown unfinished = new Shown(readme.replaceFirst("return .*;", ""));
        due.is("a method without its end compiles", howManyDiffer(unfinished), -1);
        due.is("lines without an answer", new Shown(readme.replaceFirst("// \\d+: ", "// ")).strange.size(), 1);
    }

    /** How many answers are not as a page shows them; -1: it doesn't compile. */
    private static int howManyDiffer(Shown shown) throws Exception {
        long[] got = shown.run();
        if (got == null) {
            return -1;
        }
        int differ = 0;
        for (int i = 0; i < got.length; i++) {
            differ += got[i] == shown.answers.get(i) ? 0 : 1;
        }
        return differ;
    }
}
