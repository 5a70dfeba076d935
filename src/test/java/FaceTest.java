import java.lang.reflect.Constructor;
import java.lang.reflect.Field;
import java.lang.reflect.Method;
import java.lang.reflect.Modifier;
import java.util.Set;
import java.util.TreeSet;

/** The public face is that of the document and no more (LANGUAGE.md, rule 1). */
public final class FaceTest {
    private static final Set<String> METHODS = Set.of(
        "int cls(int)", "int field(int,int,boolean,int)", "int method(int,int,boolean)",
        "int param(int,int,boolean,int)", "boolean result(int,int,boolean,int)", "boolean builtIn(int,int)",
        "int add(int,int,int)", "int guard(int,int,int,int)", "int wipe(int)", "int check(int)", "int load(int)",
        "boolean isLoaded(int)", "int place()", "int frame(int,int,int)", "int input(int)", "int run(int,int,int)",
        "int value()", "int output(int)", "int told(int)");
    private static final Set<String> CONSTANTS = Set.of(
        "BAD=-1", "FULL=-2", "FROZEN=-3", "NOT_READY=-4", "WAY=1", "CLASH=2", "STACK=3", "KIND=4", "RAW=5", "NULL=6",
        "MARKS=7", "EMPTY=8", "OUTSIDE=9", "VARIANCE=10", "DONE=0", "THROWN=1", "HEAP=2", "DEEP=3", "LONG=4",
        "UNLOADED=5", "NULLED=6");

    public static void main(String[] args) throws ReflectiveOperationException {
        Report report = new Report();
        Class<?> face = QualifierGate.class;
        report.due("public and final", face.getModifiers() & (Modifier.PUBLIC | Modifier.FINAL), Modifier.PUBLIC | Modifier.FINAL);
        report.dueText("methods", methodsOf(face), new TreeSet<>(METHODS).toString());
        report.dueText("constants", constantsOf(face), new TreeSet<>(CONSTANTS).toString());
        report.due("constructors", face.getDeclaredConstructors().length, 1);
        for (Constructor<?> made : face.getDeclaredConstructors()) {
            report.due("the constructor is public", made.getModifiers(), Modifier.PUBLIC);
            report.due("the constructor's parameters", made.getParameterCount(), 0);
        }
        for (Class<?> inside : face.getDeclaredClasses()) {
            int seen = inside.getModifiers() & (Modifier.PUBLIC | Modifier.PROTECTED);
            report.due(inside.getName() + " is not seen outside", seen, 0);
            report.due(inside.getName() + " is static", inside.getModifiers() & Modifier.STATIC, Modifier.STATIC);
            noNameTwice(report, inside);
        }
        report.end();
    }

    private static String methodsOf(Class<?> face) {
        Set<String> found = new TreeSet<>();
        for (Method method : face.getDeclaredMethods()) {
            if (!Modifier.isPrivate(method.getModifiers())) {
                found.add(method.toString().replace("public ", "").replace("QualifierGate.", ""));
            }
        }
        return found.toString();
    }

    private static String constantsOf(Class<?> face) throws ReflectiveOperationException {
        Set<String> found = new TreeSet<>();
        for (Field field : face.getDeclaredFields()) {
            if (!Modifier.isPrivate(field.getModifiers())) {
                found.add(field.getName() + "=" + field.getInt(null));
            }
        }
        return found.toString();
    }

    private static void noNameTwice(Report report, Class<?> inside) {
        for (Method method : inside.getDeclaredMethods()) {
            for (String signature : METHODS) {
                String name = signature.substring(signature.indexOf(' ') + 1, signature.indexOf('('));
                report.due(inside.getName() + "." + name + " bears no public name", method.getName().equals(name) ? 1 : 0, 0);
            }
        }
    }
}
