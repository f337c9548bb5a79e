import java.io.IOException;
import java.lang.reflect.InvocationTargetException;
import java.lang.reflect.Method;
import java.nio.file.DirectoryStream;
import java.nio.file.Files;
import java.nio.file.Path;
import java.util.List;
import java.util.Map;
import java.util.TreeMap;
import java.util.TreeSet;
import java.util.regex.Matcher;
import java.util.regex.Pattern;

/** What README.md shows and lists is what the class does and has. */
public final class ReadmeTest {
    private static final Check CHECK = new Check();
    private static final Pattern EXAMPLE = Pattern.compile("shelf\\.(\\w+)\\((.*?)\\); *// (.*)");
    private static final Pattern ANSWER = Pattern.compile("(-?\\d+)(?:,.*)?|throws (\\w+)");
    private static final Pattern CALL_ROW = Pattern.compile("\\| `(\\w+)\\((.*?)\\)` \\| .* \\| (.*)\\|");
    private static final Pattern EXCEPTION_ROW = Pattern.compile("\\| (\\w+) \\| `([\\w.]+)` \\| .*");
    private static final Pattern TEST_ROW = Pattern.compile("\\| `(\\w+Test)` \\| .*");

    public static void main(String[] args) throws IOException, ReflectiveOperationException {
        List<String> lines = Files.readAllLines(Path.of("README.md"));
        exampleAnswersAsTold(lines);
        tableOfCallsIsTheFace(lines);
        everyTestIsListed(lines);
        CHECK.end("ReadmeTest");
    }

    private static void exampleAnswersAsTold(List<String> lines) throws ReflectiveOperationException {
        Map<String, Method> face = face();
        TreeSet<String> shown = new TreeSet<>();
        RevisionShelf shelf = new RevisionShelf();
        for (String line : lines) {
            Matcher example = EXAMPLE.matcher(line);
            if (line.startsWith("shelf.") && example.matches()) {
                Method method = face.get(example.group(1));
                CHECK.same(line, answer(shelf, method, example.group(2)), told(method, example.group(3)));
                shown.add(example.group(1));
            } else {
                CHECK.same("an example without what it answers", "" + line.startsWith("shelf."), "false");
            }
        }
        CHECK.same("calls in the example", shown.toString(), face.keySet().toString());
    }

    /** A call without an answer has words behind it only. */
    private static String told(Method method, String comment) {
        Matcher answer = ANSWER.matcher(comment);
        if (!answer.matches()) {
            return method.getReturnType() == void.class ? "null" : "no answer told";
        }
        return answer.group(1) != null ? answer.group(1) : "throws." + answer.group(2);
    }

    private static String answer(RevisionShelf shelf, Method method, String arguments)
            throws ReflectiveOperationException {
        String[] words = arguments.isEmpty() ? new String[0] : arguments.split(", ");
        Class<?>[] types = method.getParameterTypes();
        Object[] values = new Object[words.length];
        for (int i = 0; i < words.length; i++) {
            values[i] = argument(types[i], words[i]);
        }
        try {
            return String.valueOf(method.invoke(shelf, values));
        } catch (InvocationTargetException e) {
            return "throws." + e.getCause().getClass().getSimpleName();
        }
    }

    private static Object argument(Class<?> type, String word) {
        if (type == boolean.class) {
            return Boolean.valueOf(word);
        }
        return type == long.class ? (Object) Long.valueOf(word) : (Object) Integer.valueOf(word);
    }

    private static void tableOfCallsIsTheFace(List<String> lines) {
        Map<String, String> exceptions = new TreeMap<>();
        for (String line : lines) {
            Matcher row = EXCEPTION_ROW.matcher(line);
            if (row.matches()) {
                exceptions.put(row.group(1), row.group(2).replace("java.util.", ""));
            }
        }
        CHECK.same("exceptions", exceptions.toString(), "{bad=" + Check.BAD.getSimpleName()
            + ", full=" + Check.FULL.getSimpleName() + ", missing=" + Check.MISSING.getSimpleName()
            + ", refused=" + Check.REFUSED.getSimpleName() + "}");
        TreeSet<String> listed = new TreeSet<>();
        for (String line : lines) {
            Matcher row = CALL_ROW.matcher(line);
            if (row.matches()) {
                listed.add(signature(row, exceptions));
            }
        }
        TreeSet<String> due = new TreeSet<>();
        for (Method method : face().values()) {
            due.add(signature(method));
        }
        CHECK.same("table of calls", listed.toString(), due.toString());
    }

    private static String signature(Matcher row, Map<String, String> exceptions) {
        int parameters = row.group(2).isEmpty() ? 0 : row.group(2).split(", ").length;
        StringBuilder all = new StringBuilder(row.group(1) + "/" + parameters);
        for (String word : row.group(3).trim().split(", ")) {
            if (!word.isEmpty()) {
                all.append(' ').append(exceptions.get(word));
            }
        }
        return all.toString();
    }

    private static String signature(Method method) {
        StringBuilder all = new StringBuilder(method.getName() + "/" + method.getParameterCount());
        for (Class<?> exception : method.getExceptionTypes()) {
            all.append(' ').append(exception.getSimpleName());
        }
        return all.toString();
    }

    private static void everyTestIsListed(List<String> lines) throws IOException {
        TreeSet<String> listed = new TreeSet<>();
        for (String line : lines) {
            Matcher row = TEST_ROW.matcher(line);
            if (row.matches()) {
                listed.add(row.group(1) + ".java");
            }
        }
        TreeSet<String> there = new TreeSet<>();
        try (DirectoryStream<Path> files = Files.newDirectoryStream(Path.of("src/test/java"), "*Test.java")) {
            for (Path file : files) {
                there.add(file.getFileName().toString());
            }
        }
        CHECK.same("tests", listed.toString(), there.toString());
    }

    private static Map<String, Method> face() {
        Map<String, Method> face = new TreeMap<>();
        for (Method method : RevisionShelf.class.getMethods()) {
            if (method.getDeclaringClass() == RevisionShelf.class) {
                face.put(method.getName(), method);
            }
        }
        return face;
    }
}
