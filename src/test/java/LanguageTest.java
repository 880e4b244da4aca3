import java.io.ByteArrayInputStream;
import java.io.DataInputStream;
import java.io.IOException;
import java.io.InputStream;
import java.io.PrintWriter;
import java.io.StringWriter;
import java.lang.reflect.Constructor;
import java.lang.reflect.Field;
import java.lang.reflect.Method;
import java.lang.reflect.Modifier;
import java.nio.charset.StandardCharsets;
import java.nio.file.Files;
import java.nio.file.Path;
import java.util.ArrayList;
import java.util.List;
import java.util.Map;
import java.util.Set;
import java.util.TreeMap;
import java.util.TreeSet;
import java.util.regex.Matcher;
import java.util.regex.Pattern;
import java.util.spi.ToolProvider;

/** What of LANGUAGE.md can be seen from the source, the classes and their constant pools. */
public final class LanguageTest {
    private static final Due due = new Due();
    private static final Set<String> FACE = Set.of("feed", "house", "fault", "barrel", "swap", "sell", "put",
            "day", "judge", "perform", "week", "leftAlone", "missed", "leak", "tone", "knock", "heard", "fit",
            "fitting", "sure", "next", "worst", "ways", "alike", "enough", "needed", "kept", "longest", "ripeIn",
            "ripeBy", "orders", "apart", "numbers", "write", "copy", "image", "restore", "count");
    private static final Set<String> LIBRARY = Set.of("java/lang/Object.<init>", "java/lang/String.length",
            "java/lang/String.charAt", "java/util/Arrays.fill", "java/lang/Math.max", "java/lang/Math.min",
            "java/lang/Math.abs", "java/lang/Math.floorDiv", "java/lang/Integer.bitCount",
            "java/lang/Long.bitCount");

    public static void main(String[] args) throws Exception {
        sourceKeepsToTheRules();
        faceIsTheDocuments();
        callsAreNotDeep();
        for (Class<?> c : classes()) {
            membersKeepToTheRules(c);
            for (String call : libraryCalls(c)) {
                due.same("a call of the library in " + c.getName(), LIBRARY.contains(call) ? "" : call, "");
            }
        }
        due.end();
    }

    private static List<Class<?>> classes() {
        List<Class<?>> all = new ArrayList<>(List.of(HeardBarrels.class.getDeclaredClasses()));
        due.is("twelve classes at most", Math.max(12, all.size() + 1), 12);
        for (Class<?> inside : all) {
            due.is(inside + " is static", inside.getModifiers() & Modifier.STATIC, Modifier.STATIC);
            due.is(inside + " is not public", inside.getModifiers() & (Modifier.PUBLIC | Modifier.PROTECTED), 0);
        }
        all.add(HeardBarrels.class);
        return all;
    }

    private static void sourceKeepsToTheRules() throws IOException {
        String source = Files.readString(Path.of("src/main/java/HeardBarrels.java"), StandardCharsets.ISO_8859_1);
        String code = source.replaceAll("(?s)/\\*.*?\\*/", " ").replaceAll("//[^\n]*", " ")
                .replaceAll("\"[^\"]*\"", "\"\"");
        for (char sign : source.toCharArray()) {
            if (sign > 126 || sign < 32 && sign != 10) {
                due.is("a sign of the source", sign, 32);
            }
        }
        Matcher word = Pattern.compile("\\b(throw|try|catch|synchronized|assert|package|native|volatile|var|"
                + "yield|while \\(true\\)|for \\(;;\\))\\b|->|::|static \\{|@").matcher(code);
        due.same("a word that is ruled out", word.find() ? word.group() : "", "");
        Matcher use = Pattern.compile("import ([^;]*);").matcher(code);
        while (use.find()) {
            due.same("an import", use.group(1), "java.util.Arrays");
        }
        Matcher method = Pattern.compile("(?m)^( +)(?:[a-zA-Z\\[\\]]+ )+\\w+\\([^)]*\\) \\{$").matcher(code);
        int methods = 0;
        while (method.find()) {
            int end = code.indexOf("\n" + method.group(1) + "}", method.end());
            long lines = code.substring(method.start(), end).lines().count() + 1;
            due.is("lines of " + method.group().trim(), Math.max(60, lines), 60);
            methods++;
        }
        due.is("methods were found", Math.min(methods, 100), 100);
    }

    private static void faceIsTheDocuments() {
        Set<String> open = new TreeSet<>();
        for (Method m : HeardBarrels.class.getDeclaredMethods()) {
            if (Modifier.isPublic(m.getModifiers())) {
                open.add(m.getName());
            } else {
                due.is(m.getName() + " is private", m.getModifiers() & Modifier.PRIVATE, Modifier.PRIVATE);
            }
        }
        due.same("the face", open.toString(), new TreeSet<>(FACE).toString());
        for (Field f : HeardBarrels.class.getDeclaredFields()) {
            boolean constant = f.getName().equals("NONE");
            due.is(f.getName(), f.getModifiers() & Modifier.PRIVATE, constant ? 0 : Modifier.PRIVATE);
        }
        Constructor<?>[] makers = HeardBarrels.class.getDeclaredConstructors();
        due.is("constructors", makers.length, 1);
        due.is("the class", HeardBarrels.class.getModifiers(), Modifier.PUBLIC | Modifier.FINAL);
    }

    private static void membersKeepToTheRules(Class<?> c) {
        int fields = 0;
        for (Field f : c.getDeclaredFields()) {
            boolean fixed = Modifier.isStatic(f.getModifiers());
            fields += fixed ? 0 : 1;
            due.is(c + " " + f.getName() + ", static and not final",
                    fixed && !Modifier.isFinal(f.getModifiers()) ? 1 : 0, 0);
        }
        due.is("twenty fields at most in " + c, Math.max(20, fields), 20);
        for (Method m : c.getDeclaredMethods()) {
            due.is("seven parameters at most of " + m, Math.max(7, m.getParameterCount()), 7);
            boolean known = c != HeardBarrels.class && FACE.contains(m.getName());
            due.is(m + " bears the name of a public one", known ? 1 : 0, 0);
        }
    }

    /** Rule 11: calls that are no recursion, those of the library too, go at most eight deep. */
    private static void callsAreNotDeep() {
        Map<String, Set<String>> calls = new TreeMap<>();
        findCalls(HeardBarrels.class, calls);
        for (Class<?> inside : HeardBarrels.class.getDeclaredClasses()) {
            findCalls(inside, calls);
        }
        Set<String> again = new TreeSet<>();
        for (String method : calls.keySet()) {
            int depth = depthOf(method, List.of(), calls, again);
            due.is("calls within " + method, Math.max(8, depth), 8);
        }
        due.same("recursion", again.toString(), "[HeardBarrels$Keeper.fewest, HeardBarrels$Keeper.lasting]");
        due.is("methods were found", Math.min(calls.size(), 100), 100);
    }

    /** Who calls whom, as javap tells it. */
    private static void findCalls(Class<?> c, Map<String, Set<String>> calls) {
        StringWriter told = new StringWriter();
        PrintWriter out = new PrintWriter(told);
        ToolProvider.findFirst("javap").orElseThrow().run(out, out, "-c", "-p", "-cp",
                System.getProperty("java.class.path"), c.getName());
        Pattern head = Pattern.compile("  [^ ].*?([\\w$]+)\\(.*\\);");
        Pattern call = Pattern.compile(".*: invoke.*// \\w*Method (?:([\\w$/]+)\\.)?\"?([\\w<>]+)\"?:.*");
        String method = "";
        for (String line : told.toString().split("\\R")) {
            Matcher begins = head.matcher(line);
            Matcher calling = call.matcher(line);
            if (begins.matches()) {
                method = c.getName() + "." + begins.group(1);
                calls.putIfAbsent(method, new TreeSet<>());
            } else if (calling.matches()) {
                String owner = calling.group(1) == null ? c.getName() : calling.group(1);
                calls.get(method).add(owner + "." + calling.group(2));
            }
        }
    }

    private static int depthOf(String method, List<String> within, Map<String, Set<String>> calls, Set<String> again) {
        List<String> path = new ArrayList<>(within);
        path.add(method);
        int most = 0;
        for (String called : calls.getOrDefault(method, Set.of())) {
            if (path.contains(called)) {
                again.add(called);
            } else {
                most = Math.max(most, depthOf(called, path, calls, again));
            }
        }
        return 1 + most;
    }

    /** The methods of other classes that a class names in its constant pool. */
    private static Set<String> libraryCalls(Class<?> c) throws IOException {
        byte[] bytes;
        try (InputStream in = LanguageTest.class.getResourceAsStream("/" + c.getName() + ".class")) {
            bytes = in.readAllBytes();
        }
        DataInputStream in = new DataInputStream(new ByteArrayInputStream(bytes));
        in.skipBytes(8);
        int size = in.readUnsignedShort();
        String[] texts = new String[size];
        int[] first = new int[size];
        int[] second = new int[size];
        int[] tags = new int[size];
        for (int i = 1; i < size; i++) {
            tags[i] = in.readUnsignedByte();
            switch (tags[i]) {
                case 1:
                    texts[i] = in.readUTF();
                    break;
                case 3:
                case 4:
                    in.readInt();
                    break;
                case 5:
                case 6:
                    in.readLong();
                    i++;
                    break;
                case 7:
                case 8:
                case 16:
                case 19:
                case 20:
                    first[i] = in.readUnsignedShort();
                    break;
                case 15:
                    in.readUnsignedByte();
                    first[i] = in.readUnsignedShort();
                    break;
                default:
                    first[i] = in.readUnsignedShort();
                    second[i] = in.readUnsignedShort();
                    break;
            }
        }
        Set<String> calls = new TreeSet<>();
        for (int i = 1; i < size; i++) {
            if (tags[i] == 10 || tags[i] == 11) {
                String owner = texts[first[first[i]]];
                if (!owner.startsWith("HeardBarrels") && !owner.startsWith("[")) {
                    calls.add(owner + "." + texts[first[second[i]]]);
                }
            }
        }
        return calls;
    }
}
