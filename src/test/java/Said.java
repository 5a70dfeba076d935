import java.util.ArrayList;
import java.util.Arrays;
import java.util.List;

/** A call as it is written: its name and its arguments, booleans as 0 or 1; so is the answer of those that answer one. */
record Said(String name, int[] args) {
    /** Calls parted by ';'. */
    static List<Said> all(String text) {
        List<Said> found = new ArrayList<>();
        for (String part : text.split(";")) {
            String[] words = part.trim().split(" +");
            int[] args = new int[words.length - 1];
            for (int a = 0; a < args.length; a++) {
                args[a] = Integer.parseInt(words[a + 1]);
            }
            found.add(new Said(words[0], args));
        }
        return found;
    }

    private static int bit(boolean b) {
        return b ? 1 : 0;
    }

    int on(Gate gate) {
        int[] a = args;
        return switch (name) {
            case "cls" -> gate.cls(a[0]);
            case "field" -> gate.field(a[0], a[1], a[2] == 1, a[3]);
            case "method" -> gate.method(a[0], a[1], a[2] == 1);
            case "param" -> gate.param(a[0], a[1], a[2] == 1, a[3]);
            case "result" -> bit(gate.result(a[0], a[1], a[2] == 1, a[3]));
            case "builtIn" -> bit(gate.builtIn(a[0], a[1]));
            case "add" -> gate.add(a[0], a[1], a[2]);
            case "guard" -> gate.guard(a[0], a[1], a[2], a[3]);
            case "wipe" -> gate.wipe(a[0]);
            case "check" -> gate.check(a[0]);
            case "load" -> gate.load(a[0]);
            case "isLoaded" -> bit(gate.isLoaded(a[0]));
            case "place" -> gate.place();
            case "frame" -> gate.frame(a[0], a[1], a[2]);
            case "input" -> gate.input(a[0]);
            case "run" -> gate.run(a[0], a[1], a[2]);
            case "value" -> gate.value();
            case "output" -> gate.output(a[0]);
            case "told" -> gate.told(a[0]);
            default -> throw new IllegalArgumentException(name);
        };
    }

    /** Whether this answer tells that the call was refused. */
    boolean refused(int answer) {
        return switch (name) {
            case "result", "builtIn" -> answer == 0;
            case "cls", "field", "method", "param", "add", "guard", "wipe", "check", "load", "input", "run" -> answer < 0;
            default -> false;
        };
    }

    @Override
    public String toString() {
        return name + Arrays.toString(args);
    }
}
