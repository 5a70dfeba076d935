import java.io.IOException;
import java.lang.reflect.Field;
import java.lang.reflect.InvocationTargetException;
import java.lang.reflect.Method;
import java.lang.reflect.Modifier;
import java.nio.file.DirectoryStream;
import java.nio.file.Files;
import java.nio.file.Path;
import java.util.HashMap;
import java.util.Locale;
import java.util.Map;
import java.util.Set;
import java.util.TreeSet;
import java.util.regex.Matcher;
import java.util.regex.Pattern;

/** What README.md says of the class is what the class does; asked from the project's folder. */
public final class ReadmeTest {
    private static final Pattern BLOCK = Pattern.compile("(?s)```java\n(.*?)```");
    private static final Pattern MADE = Pattern.compile("QualifierGate gate = new QualifierGate\\(\\);( +// .*)?");
    private static final Pattern CALL = Pattern.compile(
        "(?:(int|boolean) ([a-z]\\w*) = )?gate\\.(\\w+)\\(([^()]*)\\); +// (-?\\d+|true|false|[A-Z_]+)(: .*)?");
    private static final Pattern CONSTANT = Pattern.compile("`([A-Z_]+)` (-?\\d+)");
    private static final Pattern INSTRUCTION = Pattern.compile("\\b([A-Z]+) (\\d+)");
    private static final Pattern TEST = Pattern.compile("(?m)^\\| (\\w+Test) \\|");

    private final Report report = new Report();
    private final String text;
    private final Set<String> shown = new TreeSet<>();
    private QualifierGate gate;
    private int calls;
    private final Map<String, String> variables = new HashMap<>();

    private ReadmeTest(String text) {
        this.text = text;
    }

    public static void main(String[] args) throws IOException, IllegalAccessException {
        new ReadmeTest(Files.readString(Path.of("README.md"))).all();
    }

    private void all() throws IOException, IllegalAccessException {
        for (Matcher block = BLOCK.matcher(text); block.find();) {
            block(block.group(1));
        }
        report.dueText("the methods that README.md shows", shown.toString(), new TreeSet<>(methods().keySet()).toString());
        constants();
        instructions();
        tests();
        report.end();
    }

    private static Map<String, Method> methods() {
        Map<String, Method> found = new HashMap<>();
        for (Method method : QualifierGate.class.getDeclaredMethods()) {
            if (Modifier.isPublic(method.getModifiers())) {
                found.put(method.getName(), method);
            }
        }
        return found;
    }

    private void block(String lines) throws IllegalAccessException {
        gate = null;
        calls = 0;
        variables.clear();
        for (String line : lines.split("\n")) {
            if (gate == null) {
                report.due("makes a gate: " + line, MADE.matcher(line).matches(), true);
                gate = new QualifierGate();
            } else {
                line(line);
            }
        }
        report.due("calls of one gate", calls <= Gate.MOST_CALLS, true);
    }

    private void line(String line) throws IllegalAccessException {
        Matcher call = CALL.matcher(line);
        boolean read = call.matches();
        report.due("a call with its answer: " + line, read, true);
        Method method = read ? methods().get(call.group(3)) : null;
        if (method == null) {
            report.due("a call of the class: " + line, false, true);
            return;
        }
        String answer = answerOf(method, call.group(4), line);
        report.dueText(line, answer, constantOr(call.group(5)));
        shown.add(method.getName());
        if (call.group(2) != null) {
            report.dueText("type in " + line, call.group(1), method.getReturnType().toString());
            report.due("is not there before " + line, variables.put(call.group(2), answer) == null, true);
        }
    }

    private String answerOf(Method method, String words, String line) throws IllegalAccessException {
        String[] parts = words.isEmpty() ? new String[0] : words.split(", ");
        Class<?>[] types = method.getParameterTypes();
        report.due("arguments in " + line, parts.length, types.length);
        Object[] args = new Object[types.length];
        for (int a = 0; a < Math.min(parts.length, types.length); a++) {
            args[a] = valueOf(variables.getOrDefault(parts[a], parts[a]), types[a]);
        }
        calls++;
        try {
            return String.valueOf(method.invoke(gate, args));
        } catch (IllegalArgumentException | InvocationTargetException refused) {
            return refused.toString();
        }
    }

    /** The argument, or null, with which no call can be made, if the word is none of this type. */
    private static Object valueOf(String word, Class<?> type) {
        if (type == boolean.class) {
            return word.equals("true") ? Boolean.TRUE : word.equals("false") ? Boolean.FALSE : null;
        }
        return word.matches("-?\\d+") ? Integer.valueOf(word) : null;
    }

    private static String constantOr(String word) throws IllegalAccessException {
        for (Field field : QualifierGate.class.getFields()) {
            if (field.getName().equals(word)) {
                return String.valueOf(field.getInt(null));
            }
        }
        return word;
    }

    private void constants() throws IllegalAccessException {
        Set<String> told = new TreeSet<>();
        for (Matcher constant = CONSTANT.matcher(text); constant.find();) {
            told.add(constant.group(1) + "=" + constant.group(2));
        }
        Set<String> there = new TreeSet<>();
        for (Field field : QualifierGate.class.getFields()) {
            there.add(field.getName() + "=" + field.getInt(null));
        }
        report.dueText("the constants that README.md tells", told.toString(), there.toString());
    }

    /** Of the table of instructions: each name has its number, and takes what the table says and no more. */
    private void instructions() {
        String table = text.substring(text.indexOf("| instructions | a |"));
        Set<Integer> told = new TreeSet<>();
        for (String row : table.substring(0, table.indexOf("\n\n")).split("\n")) {
            String[] cells = row.split("\\|");
            for (Matcher one = INSTRUCTION.matcher(cells[1]); one.find();) {
                int op = Integer.parseInt(one.group(2));
                told.add(op);
                report.due("number of " + one.group(1), op, Bench.NAMES.indexOf(one.group(1).toLowerCase(Locale.ROOT)));
                report.dueText("what " + one.group(1) + " takes", cells[2].trim(), taken(op));
            }
        }
        report.due("instructions in README.md", told.size(), Bench.NAMES.size());
    }

    /** What README.md says of an instruction's a, by what an object with two classes, three fields and four methods takes. */
    private static String taken(int op) {
        int most = 0;
        for (int a = 0; a < 30 && most == a; a++) {
            most = stocked().add(0, op, a) > 0 ? a + 1 : most;
        }
        boolean low = stocked().add(0, op, -1) > 0;
        return switch (most) {
            case 2 -> "a class";
            case 3 -> "a field";
            case 4 -> "a method";
            case 6 -> "a local, 0 to 5";
            case 20 -> "an instruction, 0 to 19";
            default -> !low ? "?" : op == 0 ? "an int" : "any";
        };
    }

    private static QualifierGate stocked() {
        QualifierGate made = new QualifierGate();
        made.cls(0);
        for (int f = 0; f < 3; f++) {
            made.field(0, -1, false, 0);
        }
        for (int m = 0; m < 4; m++) {
            made.method(0, m, true);
        }
        return made;
    }

    private void tests() throws IOException {
        Set<String> told = new TreeSet<>();
        for (Matcher test = TEST.matcher(text); test.find();) {
            told.add(test.group(1));
        }
        Set<String> there = new TreeSet<>();
        try (DirectoryStream<Path> files = Files.newDirectoryStream(Path.of("src/test/java"), "*Test.java")) {
            for (Path file : files) {
                there.add(file.getFileName().toString().replace(".java", ""));
            }
        }
        report.dueText("the tests that README.md tells", told.toString(), there.toString());
    }
}
