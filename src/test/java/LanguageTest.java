import java.io.IOException;
import java.lang.reflect.Field;
import java.lang.reflect.Modifier;
import java.nio.file.Files;
import java.nio.file.Path;
import java.util.Set;
import java.util.regex.Matcher;
import java.util.regex.Pattern;

/** What of LANGUAGE.md can be seen in the text of the program and in its fields; asked from the project's folder. */
public final class LanguageTest {
    private static final int MOST_LINES = 60;
    private static final int MOST_PARAMETERS = 7;
    private static final int MOST_CLASSES = 12;
    private static final int MOST_FIELDS = 20;
    private static final Set<Class<?>> STATIC_TYPES = Set.of(int.class, long.class, boolean.class, char.class, String.class,
        int[].class, long[].class, char[].class, byte[].class);
    private static final String[] FORBIDDEN = {"\\bthrow\\b", "\\btry\\b", "\\bcatch\\b", "\\bfinally\\b", "\\bsynchronized\\b",
        "\\bassert\\b", "\\bimport\\b", "\\bpackage\\b", "->", "::", "Exact\\b", "\\bstatic \\{", "\\bObject\\b", "\\bSystem\\.(?!arraycopy)",
        "\\bprotected\\b", "\\btoString\\b", "\\bhashCode\\b", "\\bnative\\b", "\\bThread\\b", "while \\(true\\)", "for \\(;;\\)"};

    public static void main(String[] args) throws IOException {
        Report report = new Report();
        String text = Files.readString(Path.of("src/main/java/QualifierGate.java"));
        String bare = text.replaceAll("(?s)/\\*.*?\\*/", "").replaceAll("//[^\n]*", "");
        for (String word : FORBIDDEN) {
            report.due("places of " + word, count(bare, word), 0);
        }
        report.due("few classes", count(bare, "\\bclass [A-Z]") <= MOST_CLASSES, true);
        report.due("characters beyond 127", count(text, "[^\\x00-\\x7f]"), 0);
        methods(report, bare);
        fields(report, QualifierGate.class);
        for (Class<?> inside : QualifierGate.class.getDeclaredClasses()) {
            fields(report, inside);
        }
        report.end();
    }

    private static int count(String text, String word) {
        int found = 0;
        for (Matcher matcher = Pattern.compile(word).matcher(text); matcher.find();) {
            found++;
        }
        return found;
    }

    private static void methods(Report report, String bare) {
        String head = "(?m)^( +)(?:[a-z]+ )*[A-Za-z\\[\\]]+ ?([A-Za-z]+)?\\(([^)]*)\\) \\{\n";
        Matcher matcher = Pattern.compile(head).matcher(bare);
        int found = 0;
        while (matcher.find()) {
            if (matcher.group(1).length() > 8) {
                continue;
            }
            found++;
            String end = "\n" + matcher.group(1) + "}\n";
            String body = bare.substring(matcher.start(), bare.indexOf(end, matcher.start()));
            report.due("short enough: " + matcher.group(2), count(body, "\n") < MOST_LINES, true);
            report.due("few parameters: " + matcher.group(2), count(matcher.group(3), ",") < MOST_PARAMETERS, true);
        }
        report.due("methods were found", found > 60, true);
    }

    private static void fields(Report report, Class<?> of) {
        int own = 0;
        for (Field field : of.getDeclaredFields()) {
            if (Modifier.isStatic(field.getModifiers())) {
                report.due(field + " is final", Modifier.isFinal(field.getModifiers()), true);
                report.due(field + " is of a type for constants", STATIC_TYPES.contains(field.getType()), true);
            } else {
                own++;
            }
        }
        report.due("few fields: " + of.getName(), own <= MOST_FIELDS, true);
    }
}
