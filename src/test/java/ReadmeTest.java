import java.io.IOException;
import java.lang.reflect.Field;
import java.lang.reflect.Method;
import java.lang.reflect.Modifier;
import java.nio.file.Files;
import java.nio.file.Path;
import java.util.List;
import java.util.TreeMap;
import java.util.TreeSet;
import java.util.regex.Matcher;
import java.util.regex.Pattern;
import java.util.stream.Stream;

/** README.md agrees with the class and with the tests that there are: its example, its tables, its list. */
public final class ReadmeTest {
    private static final Pattern CALL = Pattern.compile("field\\.(\\w+)\\(([^)]*)\\); *// (-?\\d+)\\b.*");
    private static final Pattern ROW = Pattern.compile("\\| `(\\w+)\\(([^)]*)\\)` \\| (.*) \\|");

    private ReadmeTest() {
    }

    public static void main(String[] args) throws IOException, ReflectiveOperationException {
        List<String> lines = Files.readAllLines(Path.of("README.md"));
        example(lines);
        calls(lines);
        constants(lines);
        tests(lines);
        Check.end("ReadmeTest");
    }

    private static void fine(String what, boolean is) {
        Check.due(what, is ? 1 : 0, 1);
    }

    private static TreeMap<String, Method> face() {
        TreeMap<String, Method> face = new TreeMap<>();
        for (Method m : TallerTrees.class.getDeclaredMethods()) {
            if (Modifier.isPublic(m.getModifiers())) face.put(m.getName(), m);
        }
        return face;
    }

    private static String[] parts(String told) {
        return told.isEmpty() ? new String[0] : told.split(", *");
    }

    private static long answer(TallerTrees x, String name, String told) throws ReflectiveOperationException {
        String[] parts = parts(told);
        Object[] values = new Object[parts.length];
        for (int i = 0; i < parts.length; i++) {
            values[i] = parts[i].startsWith("'") ? parts[i].charAt(1) : Integer.parseInt(parts[i]);
        }
        return ((Number) face().get(name).invoke(x, values)).longValue();
    }

    private static void example(List<String> lines) throws ReflectiveOperationException {
        int from = lines.indexOf("```java") + 1;
        int to = from + lines.subList(from, lines.size()).indexOf("```");
        TallerTrees x = null;
        int answers = 0;
        for (String line : lines.subList(from, to)) {
            Matcher call = CALL.matcher(line);
            if (line.equals("TallerTrees field = new TallerTrees();")) {
                x = new TallerTrees();
            } else if (line.startsWith("for (char c : \"")) {
                Check.types(x, line.substring(line.indexOf('"') + 1, line.lastIndexOf('"')));
            } else if (call.matches()) {
                Check.due("README: " + line, answer(x, call.group(1), call.group(2)), Long.parseLong(call.group(3)));
                answers++;
            } else {
                fine("a line of README's example: " + line, line.equals("}") || line.equals("    field.type(c);"));
            }
        }
        fine("README's example has answers: " + answers, answers > 10);
    }

    /** Each call has one row, with as many numbers as it takes; a row tells of BAD where the call refuses so. */
    private static void calls(List<String> lines) throws ReflectiveOperationException {
        TreeMap<String, Method> face = face();
        TreeSet<String> told = new TreeSet<>();
        for (String line : lines) {
            Matcher row = ROW.matcher(line);
            if (!row.matches()) continue;
            String name = row.group(1);
            fine("README tells of " + name + " once", told.add(name));
            Method m = face.get(name);
            fine("README's call " + name, m != null && m.getParameterCount() == parts(row.group(2)).length);
            if (m == null) continue;
            Object[] wrong = new Object[m.getParameterCount()];
            for (int i = 0; i < wrong.length; i++) wrong[i] = -1000;
            long answer = ((Number) m.invoke(new TallerTrees(), wrong)).longValue();
            boolean refused = wrong.length > 0;
            String how = name.equals("mark") ? "`NO`" : "`BAD`";
            Check.due("wrong numbers for " + name, answer,
                !refused ? answer : name.equals("mark") ? TallerTrees.NO : TallerTrees.BAD);
            fine("README's row of " + name + " tells what is refused", row.group(3).contains(how) == refused);
        }
        fine("README tells of all calls: " + told, told.equals(new TreeSet<>(face.keySet())));
    }

    private static void constants(List<String> lines) throws ReflectiveOperationException {
        String text = String.join("\n", lines);
        for (Field f : TallerTrees.class.getDeclaredFields()) {
            if (!Modifier.isPublic(f.getModifiers())) continue;
            String row = "| `" + f.getName() + "` | " + f.getInt(null) + " |";
            String words = "`" + f.getName() + "` (" + f.getInt(null) + ")";
            fine("README tells " + f.getName(), text.contains(row) || text.contains(words));
        }
    }

    private static void tests(List<String> lines) throws IOException {
        TreeSet<String> told = new TreeSet<>();
        Matcher m = Pattern.compile("`(\\w+Test)`").matcher(String.join("\n", lines));
        while (m.find()) told.add(m.group(1));
        TreeSet<String> are = new TreeSet<>();
        try (Stream<Path> files = Files.list(Path.of("src/test/java"))) {
            files.map(f -> f.getFileName().toString()).filter(n -> n.endsWith("Test.java"))
                .forEach(n -> are.add(n.substring(0, n.length() - ".java".length())));
        }
        fine("README names all tests: " + told, told.equals(are));
        fine("README names .ci/run", lines.contains("    .ci/run") && Files.isExecutable(Path.of(".ci/run")));
        String run = Files.readString(Path.of(".ci/run"));
        fine("how .ci/run ends", run.contains("echo \"$passed passed, $failed failed\""));
    }
}
