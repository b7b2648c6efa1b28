import java.lang.reflect.Constructor;
import java.lang.reflect.Field;
import java.lang.reflect.Method;
import java.lang.reflect.Modifier;
import java.nio.file.Files;
import java.nio.file.Path;
import java.util.ArrayList;
import java.util.Collections;
import java.util.HashSet;
import java.util.List;
import java.util.Map;
import java.util.Random;
import java.util.Set;
import java.util.TreeMap;
import java.util.regex.Matcher;
import java.util.regex.Pattern;

/** The public face of the document, and the rules of LANGUAGE.md that can be seen in the class or its text. */
public final class LanguageTest {
    private static final Due due = new Due();

    private static final String[] METHODS = {
        "put(int,int,int)", "wipe()", "compile()", "feed(int,int)", "parse()", "value(int)", "drop()", "write()",
        "place()", "at()", "values()", "valueAt(int)", "bytes()", "byteAt(int)", "variable(int)",
    };

    private static final String[] CONSTANTS = {
        "OK=0", "STRUCTURE=1", "UNSET=2", "SHORT=3", "RANGE=4", "MISMATCH=5", "PADDING=6", "LEFT=7", "MANY=8",
        "NOT_READY=9", "REFUSED=-1",
    };

    private static final String[] WORDS = {
        "String", "Math", "Integer", "System", "Arrays", "Object", "import", "package", "float", "double", "null",
        "throw", "throws", "try", "catch", "synchronized", "assert", "instanceof", "enum", "record", "interface",
        "protected", "toString", "hashCode", "equals", "clone", "getClass",
    };

    public static void main(String[] args) throws Exception {
        methods();
        fields();
        text();
        calls();
        anyCalls();
        due.end();
    }

    private static void methods() {
        Class<?> type = FormatWorkshop.class;
        due.holds("the class is public and final", Modifier.isPublic(type.getModifiers()) && Modifier.isFinal(type.getModifiers()));
        due.is("nested classes", type.getDeclaredClasses().length, 0);
        Constructor<?>[] constructors = type.getDeclaredConstructors();
        due.is("constructors", constructors.length, 1);
        due.holds("the constructor is public, without parameters",
            Modifier.isPublic(constructors[0].getModifiers()) && constructors[0].getParameterCount() == 0);
        Set<String> publicNames = new HashSet<>();
        List<String> found = new ArrayList<>();
        for (Method method : type.getDeclaredMethods()) {
            if (Modifier.isPublic(method.getModifiers())) {
                due.holds(method + " answers an int", method.getReturnType() == int.class);
                publicNames.add(method.getName());
                String parameters = "int,".repeat(method.getParameterCount());
                found.add(method.getName() + "(" + parameters.replaceAll(",$", "") + ")");
            }
        }
        same("public methods", found, List.of(METHODS));
        for (Method method : type.getDeclaredMethods()) {
            if (!Modifier.isPublic(method.getModifiers())) {
                due.holds(method + " is private", Modifier.isPrivate(method.getModifiers()));
                due.holds(method + " has a name of its own", !publicNames.contains(method.getName()));
                due.holds(method + " has at most seven parameters", method.getParameterCount() <= 7);
            }
        }
    }

    private static void fields() throws Exception {
        List<String> constants = new ArrayList<>();
        int held = 0;
        for (Field field : FormatWorkshop.class.getDeclaredFields()) {
            int modifiers = field.getModifiers();
            Class<?> type = field.getType();
            if (Modifier.isPublic(modifiers)) {
                due.holds(field + " is a constant", Modifier.isStatic(modifiers) && Modifier.isFinal(modifiers) && type == int.class);
                constants.add(field.getName() + "=" + field.getInt(null));
                continue;
            }
            due.holds(field + " is private", Modifier.isPrivate(modifiers));
            if (Modifier.isStatic(modifiers)) {
                due.holds(field + " is a constant number", Modifier.isFinal(modifiers) && (type == int.class || type == long.class));
            } else {
                held++;
                due.holds(field + " is a number or an array of numbers",
                    type.isPrimitive() || type.isArray() && type.getComponentType().isPrimitive());
            }
        }
        same("public constants", constants, List.of(CONSTANTS));
        due.holds(held + " fields are some forty at most", held <= 40);
    }

    private static String code() throws Exception {
        String source = Files.readString(Path.of("src/main/java/FormatWorkshop.java"));
        return source.replaceAll("(?s)/\\*.*?\\*/", "").replaceAll("//[^\n]*", "");
    }

    private static void text() throws Exception {
        String code = code();
        for (String word : WORDS) {
            due.holds("the code is without " + word, !Pattern.compile("\\b" + word + "\\b").matcher(code).find());
        }
        due.holds("the code is without -> and ::", !code.contains("->") && !code.contains("::"));
        due.holds("the code is without a static initialiser", !Pattern.compile("\\bstatic\\s*\\{").matcher(code).find());
        Matcher made = Pattern.compile("(?m)^.*\\bnew\\b.*$").matcher(code);
        while (made.find()) {
            due.holds("an array is made in a field's initialiser:" + made.group(),
                made.group().matches("    private final int\\[\\] \\w+ = new int\\[[A-Z_]+\\];"));
        }
    }

    /** Rules 8 and 10: no recursion, short methods, calls at most six deep, and none inside the arguments of another. */
    private static void calls() throws Exception {
        Map<String, String> bodies = new TreeMap<>();
        Matcher method = Pattern.compile("(?ms)^    (?:public|private) \\w+ (\\w+)\\([^)]*\\) \\{\n(.*?)^    \\}").matcher(code());
        while (method.find()) {
            bodies.put(method.group(1), method.group(2));
            due.holds(method.group(1) + " has some sixty lines at most", method.group(2).lines().count() <= 60);
        }
        due.is("methods found in the text", bodies.size(), FormatWorkshop.class.getDeclaredMethods().length);
        for (String name : bodies.keySet()) {
            int deep = depth(name, bodies, new HashSet<>());
            due.holds("calls from " + name + " go six deep at most, here " + deep, deep <= 6);
            for (String arguments : argumentsOfCalls(bodies.get(name))) {
                due.holds("no call inside the arguments (" + arguments + ") in " + name, !arguments.matches("(?s).*\\w\\(.*"));
            }
        }
    }

    private static int depth(String name, Map<String, String> bodies, Set<String> above) {
        if (!above.add(name)) {
            due.holds(name + " does not call itself", false);
            return 0;
        }
        int deepest = 0;
        Matcher call = Pattern.compile("\\b(\\w+)\\(").matcher(bodies.get(name));
        while (call.find()) {
            if (bodies.containsKey(call.group(1))) {
                deepest = Math.max(deepest, depth(call.group(1), bodies, above));
            }
        }
        above.remove(name);
        return deepest + 1;
    }

    private static List<String> argumentsOfCalls(String body) {
        List<String> found = new ArrayList<>();
        Matcher call = Pattern.compile("\\b\\w+\\(").matcher(body);
        while (call.find()) {
            int end = call.end();
            for (int open = 1; open > 0; end++) {
                open += body.charAt(end) == '(' ? 1 : body.charAt(end) == ')' ? -1 : 0;
            }
            found.add(body.substring(call.end(), end - 1));
        }
        return found;
    }

    /**
     * Rules 7 and 11: no call throws or fails to end, in any state, so also behind the calls that are promised; and the
     * same calls give the same answers.
     */
    private static void anyCalls() {
        Random random = new Random(1);
        FormatWorkshop x = new FormatWorkshop();
        FormatWorkshop y = new FormatWorkshop();
        int formats = 0;
        for (int round = 0; round < 20000; round++) {
            List<int[]> made = new ArrayList<>();
            if (random.nextInt(4) == 0) {
                made.add(new int[] {1});
                describe(made, random);
                made.add(new int[] {2});
            }
            for (int i = random.nextInt(30); i >= 0; i--) {
                int which = random.nextInt(30) == 0 ? random.nextInt(3) : 3 + random.nextInt(12);
                made.add(new int[] {which, anyInt(random), anyInt(random), anyInt(random)});
            }
            for (int[] call : made) {
                int answer = answer(x, call);
                due.is("the same call " + call[0] + " on a second object", answer(y, call), answer);
                formats += call[0] == 2 && answer == FormatWorkshop.OK ? 1 : 0;
            }
        }
        due.holds("many descriptions become a format, here " + formats, formats > 2000);
    }

    private static void describe(List<int[]> made, Random random) {
        for (int v = 0; v < 8; v++) {
            made.add(new int[] {0, 10, random.nextInt(40), v});
        }
        int open = 0;
        for (int i = random.nextInt(28); i > 0; i--) {
            int kind = random.nextInt(12);
            boolean opens = kind >= 4 && kind <= 6;
            if (opens && open == 4) {
                continue;
            }
            open += opens ? 1 : 0;
            made.add(new int[] {0, kind, kind == 10 ? random.nextInt(40) : random.nextInt(9), random.nextInt(8)});
            if (open > 0 && random.nextInt(3) == 0) {
                open--;
                made.add(new int[] {0, 13, 0, 0});
            }
        }
        for (; open > 0; open--) {
            made.add(new int[] {0, 13, 0, 0});
        }
    }

    private static int anyInt(Random random) {
        int[] edges = {Integer.MIN_VALUE, Integer.MIN_VALUE + 1, Integer.MAX_VALUE, Integer.MAX_VALUE - 1, -1};
        int way = random.nextInt(20);
        return way < edges.length ? edges[way] : way < 7 ? random.nextInt() : random.nextInt(1 << random.nextInt(8));
    }

    private static int answer(FormatWorkshop x, int[] call) {
        switch (call[0]) {
            case 0: return x.put(call[1], call[2], call[3]);
            case 1: return x.wipe();
            case 2: return x.compile();
            case 3: return x.feed(call[1], call[2]);
            case 4: return x.parse();
            case 5: return x.value(call[1]);
            case 6: return x.drop();
            case 7: return x.write();
            case 8: return x.place();
            case 9: return x.at();
            case 10: return x.values();
            case 11: return x.valueAt(call[1]);
            case 12: return x.bytes();
            case 13: return x.byteAt(call[1]);
            default: return x.variable(call[1]);
        }
    }

    private static void same(String what, List<String> found, List<String> wanted) {
        List<String> left = new ArrayList<>(found);
        List<String> right = new ArrayList<>(wanted);
        Collections.sort(left);
        Collections.sort(right);
        due.holds(what + " are " + right + ", found " + left, left.equals(right));
    }
}
