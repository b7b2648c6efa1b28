import java.lang.reflect.Field;
import java.lang.reflect.Method;
import java.lang.reflect.Modifier;
import java.nio.file.Files;
import java.nio.file.Path;
import java.util.HashMap;
import java.util.HashSet;
import java.util.List;
import java.util.Map;
import java.util.Set;
import java.util.regex.Matcher;
import java.util.regex.Pattern;

/** Makes the calls that README.md tells of, in its examples and its table of the items, and compares the answers. */
public final class ReadmeTest {
    private static final int PROMISED_CALLS = 512;
    private static final Due due = new Due();
    private static final Pattern MADE = Pattern.compile("FormatWorkshop (\\w+) = new FormatWorkshop\\(\\);");
    private static final Pattern CALL = Pattern.compile("(\\w+)\\.(\\w+)\\(([^)]*)\\);\\s+// (-?\\w+)(:.*)?");
    private static final Pattern ANSWER_ROW = Pattern.compile("\\| `([A-Z_]+)` \\| (-?\\d+) \\|.*");

    private static final Pattern ITEM_ROW =
        Pattern.compile("\\| (\\d+) [A-Z]+ \\| (any|\\d+ \\.\\. \\d+) \\| (any|v|v, \\+ 8, \\+ 16) \\|.*");
    private static final int KINDS = 14;

    private static final Map<String, Integer> constants = new HashMap<>();
    private static final Map<String, FormatWorkshop> objects = new HashMap<>();
    private static final Map<String, Integer> calls = new HashMap<>();
    private static final Set<String> methodsShown = new HashSet<>();
    private static final Set<Integer> endingsShown = new HashSet<>();

    public static void main(String[] args) throws Exception {
        readConstants();
        List<String> lines = Files.readAllLines(Path.of("README.md"));
        boolean inExample = false;
        Set<String> rows = new HashSet<>();
        int items = 0;
        for (int i = 0; i < lines.size(); i++) {
            String line = lines.get(i);
            if (line.startsWith("```")) {
                inExample = line.equals("```java");
            } else if (inExample && !line.isBlank()) {
                example("README.md, line " + (i + 1) + ": " + line, line);
            } else {
                answerRow(line, rows);
                items += itemRow(line, items);
            }
        }
        due.is("rows of the table of the items in README.md", items, KINDS);
        due.holds("the table of the answers has each of them, here " + rows, rows.equals(constants.keySet()));
        everythingIsShown();
        due.end();
    }

    private static void readConstants() throws Exception {
        for (Field field : FormatWorkshop.class.getFields()) {
            constants.put(field.getName(), field.getInt(null));
        }
    }

    private static void example(String where, String line) throws Exception {
        Matcher made = MADE.matcher(line);
        if (made.matches()) {
            objects.put(made.group(1), new FormatWorkshop());
            calls.put(made.group(1), 0);
            return;
        }
        Matcher call = CALL.matcher(line);
        if (!call.matches() || !objects.containsKey(call.group(1))) {
            due.holds(where + " is a call with its answer", false);
            return;
        }
        int soFar = calls.merge(call.group(1), 1, Integer::sum);
        due.holds(where + " is one of the promised calls", soFar <= PROMISED_CALLS);
        int want = number(call.group(4));
        due.is(where, answer(objects.get(call.group(1)), call.group(2), call.group(3)), want);
        methodsShown.add(call.group(2));
        if (constants.containsKey(call.group(4))) {
            endingsShown.add(want);
        }
    }

    private static int answer(FormatWorkshop object, String name, String arguments) throws Exception {
        String[] parts = arguments.isBlank() ? new String[0] : arguments.split(",");
        Object[] given = new Object[parts.length];
        Class<?>[] types = new Class<?>[parts.length];
        for (int i = 0; i < parts.length; i++) {
            types[i] = int.class;
            int sum = 0;
            for (String summand : parts[i].split("\\+")) {
                sum += number(summand.trim());
            }
            given[i] = sum;
        }
        Method method = FormatWorkshop.class.getMethod(name, types);
        return (int) method.invoke(object, given);
    }

    private static int number(String text) {
        return constants.containsKey(text) ? constants.get(text) : (int) (long) Long.decode(text);
    }

    private static void answerRow(String line, Set<String> rows) {
        Matcher row = ANSWER_ROW.matcher(line);
        if (row.matches()) {
            rows.add(row.group(1));
            due.is("the number of " + row.group(1) + " in README.md", number(row.group(2)), constants.getOrDefault(row.group(1), -2));
        }
    }

    /** Answers 1 for a row of the table of the items, else 0. */
    private static int itemRow(String line, int kind) {
        Matcher row = ITEM_ROW.matcher(line);
        if (!row.matches()) {
            return 0;
        }
        due.is("the kind in README.md: " + line, number(row.group(1)), kind);
        String[] ends = row.group(2).split(" \\.\\. ");
        boolean anyA = ends.length == 1;
        int least = anyA ? Integer.MIN_VALUE : number(ends[0]);
        int most = anyA ? Integer.MAX_VALUE : number(ends[1]);
        boolean anyB = row.group(3).equals("any");
        int mostB = row.group(3).equals("v") ? 7 : 7 + 8 + 16;
        taken(kind, least, 0, true);
        taken(kind, most, 0, true);
        taken(kind, least - 1, 0, anyA);
        taken(kind, most + 1, 0, anyA);
        taken(kind, least, mostB, true);
        taken(kind, least, mostB + 1, anyB);
        taken(kind, least, -1, anyB);
        return 1;
    }

    private static void taken(int kind, int a, int b, boolean so) {
        int answer = new FormatWorkshop().put(kind, a, b);
        due.is("by README.md, put(" + kind + ", " + a + ", " + b + ")", answer, so ? 1 : FormatWorkshop.REFUSED);
    }

    private static void everythingIsShown() {
        for (Method method : FormatWorkshop.class.getDeclaredMethods()) {
            if (Modifier.isPublic(method.getModifiers())) {
                due.holds("an example of README.md calls " + method.getName(), methodsShown.contains(method.getName()));
            }
        }
        for (String name : constants.keySet()) {
            due.holds("an example of README.md has the answer " + name, endingsShown.contains(constants.get(name)));
        }
    }
}
