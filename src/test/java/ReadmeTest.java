import java.io.IOException;
import java.lang.reflect.InvocationTargetException;
import java.lang.reflect.Method;
import java.lang.reflect.Modifier;
import java.nio.charset.StandardCharsets;
import java.nio.file.DirectoryStream;
import java.nio.file.Files;
import java.nio.file.Path;
import java.util.ArrayList;
import java.util.List;
import java.util.regex.Matcher;
import java.util.regex.Pattern;

/** README.md is true: its example answers what it says there, and no call and no test is left out. */
final class ReadmeTest {
    private static final String FENCE = "```";
    private static final List<String> FACE = List.of("insert", "append", "delete", "text", "diagnostics",
            "diagnostic", "definition", "type", "references", "reference", "members", "member", "rename", "count");
    /** A row of the example: a call, and behind // its answer or what it throws, and then words. */
    private static final Pattern ROW = Pattern.compile("server\\.(\\w+)\\((.*?)\\); +// (throws \\w+|[^:]+): .*");

    public static void main(String[] args) throws IOException, ReflectiveOperationException {
        List<String> readme = Files.readAllLines(Path.of("README.md"), StandardCharsets.UTF_8);
        Check check = new Check();
        checkExample(check, blockOf(readme, "java"));
        checkCalls(check, readme);
        checkTests(check, readme);
        String commands = String.join("\n", blockOf(readme, "sh"));
        check.same("the command that runs all tests", Boolean.toString(commands.contains(".ci/run")), "true");
        check.close("ReadmeTest");
    }

    /** The lines of all blocks of a language. */
    private static List<String> blockOf(List<String> readme, String language) {
        List<String> block = new ArrayList<>();
        boolean inside = false;
        for (String line : readme) {
            if (line.startsWith(FENCE)) {
                inside = line.equals(FENCE + language);
            } else if (inside) {
                block.add(line);
            }
        }
        return block;
    }

    private static void checkExample(Check check, List<String> example) throws ReflectiveOperationException {
        String text = String.join("\n", example).replaceAll("(?s).*char code : \"(.*?)\"\\.toCharArray.*", "$1");
        LanguageServer server = Check.server(text);
        int rows = 0;
        for (String line : example) {
            Matcher row = ROW.matcher(line);
            if (row.matches()) {
                rows++;
                check.same(line, outcome(server, row.group(1), row.group(2)), due(row.group(3)));
            } else {
                check.same(line + ": a row without an answer", Boolean.toString(line.startsWith("server.")), "false");
            }
        }
        check.same("the example has rows", Boolean.toString(rows > 0), "true");
    }

    private static String due(String said) {
        return said.startsWith("throws ") ? said.substring(7) : Long.toString(number(said));
    }

    private static String outcome(LanguageServer server, String name, String written) throws ReflectiveOperationException {
        String[] parts = written.isEmpty() ? new String[0] : written.split(", ");
        Method method = methodNamed(name);
        Class<?>[] types = method.getParameterTypes();
        Object[] values = new Object[parts.length];
        for (int i = 0; i < parts.length; i++) {
            long value = number(parts[i]);
            values[i] = types[i] == long.class ? (Object) value : (Object) Math.toIntExact(value);
        }
        try {
            return method.invoke(server, values).toString();
        } catch (InvocationTargetException e) {
            return e.getCause().getClass().getSimpleName();
        }
    }

    private static Method methodNamed(String name) throws NoSuchMethodException {
        for (Method method : LanguageServer.class.getDeclaredMethods()) {
            if (Modifier.isPublic(method.getModifiers()) && method.getName().equals(name)) {
                return method;
            }
        }
        throw new NoSuchMethodException(name);
    }

    private static long number(String written) {
        if (written.startsWith("'")) {
            return written.charAt(1);
        }
        if (written.equals("LanguageServer.INT")) {
            return LanguageServer.INT;
        }
        if (written.equals("LanguageServer.UNKNOWN")) {
            return LanguageServer.UNKNOWN;
        }
        return Long.decode(written.replaceAll("L$", ""));
    }

    /** Each call has a row in the table, with all that it throws; "the same" is what the row above says. */
    private static void checkCalls(Check check, List<String> readme) throws NoSuchMethodException {
        String before = "";
        for (String name : FACE) {
            String row = rowOf(readme, "| `" + name + "(");
            check.same(name + " has a row", Boolean.toString(!row.isEmpty()), "true");
            String last = row.substring(row.lastIndexOf("| ", Math.max(0, row.length() - 3)) + 1);
            String said = last.strip().startsWith("the same") ? before : thrownIn(last);
            check.same(name + " throws", said, names(methodNamed(name).getExceptionTypes()));
            before = said;
        }
    }

    private static String rowOf(List<String> readme, String beginning) {
        for (String line : readme) {
            if (line.startsWith(beginning)) {
                return line;
            }
        }
        return "";
    }

    private static String thrownIn(String said) {
        StringBuilder all = new StringBuilder();
        Matcher name = Pattern.compile("`(\\w+Exception)`").matcher(said);
        while (name.find()) {
            all.append(all.length() == 0 ? "" : " ").append(name.group(1));
        }
        return all.toString();
    }

    private static String names(Class<?>[] types) {
        StringBuilder all = new StringBuilder();
        for (Class<?> type : types) {
            all.append(all.length() == 0 ? "" : " ").append(type.getSimpleName());
        }
        return all.toString();
    }

    private static void checkTests(Check check, List<String> readme) throws IOException {
        try (DirectoryStream<Path> files = Files.newDirectoryStream(Path.of("src/test/java"), "*Test.java")) {
            for (Path file : files) {
                String name = file.getFileName().toString().replace(".java", "");
                boolean told = !rowOf(readme, "| `" + name + "` |").isEmpty();
                check.same(name + " is told of", Boolean.toString(told), "true");
            }
        }
    }
}
