import java.lang.reflect.Method;
import java.lang.reflect.Modifier;
import java.nio.file.Files;
import java.nio.file.Path;
import java.util.HashMap;
import java.util.Map;
import java.util.TreeMap;
import java.util.regex.Matcher;
import java.util.regex.Pattern;
import java.util.stream.Stream;

/** README.md: its calls answer what stands behind them, and it tells every call, every test and how they are run. */
public final class ReadmeTest {
    private static final Pattern MADE = Pattern.compile("ToolDays (\\w+) = new ToolDays\\(\\);");
    private static final Pattern CALL = Pattern.compile("(\\w+)\\.(\\w+)\\(([^)]*)\\); *// (-?\\d+).*");
    private static final Pattern ROW = Pattern.compile("\\| `(\\w+)\\(([^)]*)\\)` \\|.*");

    private static int wrong = 0;

    private static void fault(String told) {
        wrong++;
        System.out.println("README.md: " + told);
    }

    private static Map<String, Method> face() {
        Map<String, Method> face = new TreeMap<>();
        for (Method m : ToolDays.class.getDeclaredMethods()) {
            if (Modifier.isPublic(m.getModifiers())) {
                face.put(m.getName(), m);
            }
        }
        return face;
    }

    private static int howMany(String arguments) {
        return arguments.isBlank() ? 0 : arguments.split(",").length;
    }

    /** Makes the objects and the calls of the page's Java lines, in their order. */
    private static int checkExamples(String page, Map<String, Method> face) throws Exception {
        Map<String, ToolDays> objects = new HashMap<>();
        boolean inJava = false;
        int calls = 0;
        for (String line : page.split("\n")) {
            if (line.startsWith("```")) {
                inJava = line.equals("```java");
                continue;
            }
            if (!inJava) {
                continue;
            }
            Matcher made = MADE.matcher(line);
            Matcher call = CALL.matcher(line);
            if (made.matches()) {
                objects.put(made.group(1), new ToolDays());
            } else if (call.matches()) {
                calls++;
                checkCall(line, objects.get(call.group(1)), face.get(call.group(2)), call.group(3), call.group(4));
            } else {
                fault("neither an object made nor a call with its answer: " + line);
            }
        }
        return calls;
    }

    private static void checkCall(String line, ToolDays x, Method m, String arguments, String due) throws Exception {
        if (x == null || m == null || m.getParameterCount() != howMany(arguments)) {
            fault("no such object or call: " + line);
            return;
        }
        Object[] values = new Object[m.getParameterCount()];
        for (int k = 0; k < values.length; k++) {
            values[k] = Integer.decode(arguments.split(",")[k].trim());
        }
        int got = (Integer) m.invoke(x, values);
        if (got != Integer.parseInt(due)) {
            fault(line + " answers " + got);
        }
    }

    private static void checkTable(String page, Map<String, Method> face) {
        Map<String, Integer> told = new TreeMap<>();
        for (String line : page.split("\n")) {
            Matcher row = ROW.matcher(line);
            if (row.matches()) {
                told.put(row.group(1), howMany(row.group(2)));
            }
        }
        Map<String, Integer> due = new TreeMap<>();
        face.forEach((name, m) -> due.put(name, m.getParameterCount()));
        if (!told.equals(due)) {
            fault("the table tells " + told + ", the face is " + due);
        }
    }

    private static void checkTests(String page) throws Exception {
        try (Stream<Path> tests = Files.list(Path.of("src/test/java"))) {
            tests.map(t -> t.getFileName().toString().replace(".java", "")).forEach(name -> {
                if (!page.contains("- `" + name + "`:")) {
                    fault("doesn't tell of the test " + name);
                }
            });
        }
        if (!page.contains("\n.ci/run\n")) {
            fault("doesn't tell how all tests are run");
        }
        Matcher command = Pattern.compile("\njavac .*-d out (.*)\njava -cp out (\\w+)\n").matcher(page);
        while (command.find()) {
            String last = command.group(1).replaceAll(".* ", "");
            if (!last.endsWith(command.group(2) + ".java")) {
                fault("compiles " + last + ", but runs " + command.group(2));
            }
            for (String file : command.group(1).split(" ")) {
                if (!file.equals("Mine.java") && !Files.exists(Path.of(file))) {
                    fault("there is no " + file);
                }
            }
        }
    }

    public static void main(String[] args) throws Exception {
        String page = Files.readString(Path.of("README.md"));
        Map<String, Method> face = face();
        int calls = checkExamples(page, face);
        checkTable(page, face);
        checkTests(page);
        if (calls == 0) {
            fault("no calls with their answers");
        }
        System.out.println("README.md: " + calls + " calls asked, " + wrong + " faults");
        if (wrong != 0) {
            System.exit(1);
        }
    }
}
