import java.util.List;

/** A gate with a short way to write code: instructions by their names, parted by ';'. */
final class Bench {
    static final int ANY = 0, INT = 1, NULL = 2, REF = 3, RAW = 4;
    static final int HEIGHT = 0, SITE = 1, SET = 2;
    static final int STACK = 6;
    static final List<String> NAMES = List.of("number", "null", "load", "store", "dup", "pop", "add", "new", "built",
        "get", "put", "call", "cast", "go", "zero", "isnull", "give", "fail");

    final Gate gate = new Gate();
    private final Report report;
    private final String title;

    Bench(Report report, String title) {
        this.report = report;
        this.title = title;
    }

    void due(String what, int got, int want) {
        report.due(title + ": " + what, got, want);
    }

    void due(String what, boolean got, boolean want) {
        report.due(title + ": " + what, got, want);
    }

    /** Makes classes with these supers, from class 1 on. */
    Bench classes(int... supers) {
        for (int above : supers) {
            gate.cls(above);
        }
        return this;
    }

    /** A static method of class 0 with the next free name, and no result. */
    int plain(int name) {
        return gate.method(0, name, true);
    }

    /** The code of the method, in place of what it was. */
    void code(int m, String text) {
        gate.wipe(m);
        more(m, text);
    }

    void more(int m, String text) {
        for (String part : text.split(";")) {
            String[] words = part.trim().split(" ");
            int a = words.length > 1 ? Integer.parseInt(words[1]) : 0;
            int op = NAMES.indexOf(words[0]);
            if (op < 0 || gate.add(m, op, a) < 0) {
                due("add of '" + part + "'", -1, 0);
            }
        }
    }

    /** The code has this error at this instruction. */
    void error(int m, String text, int error, int at) {
        code(m, text);
        due("check of " + text, gate.check(m), error);
        due("place in " + text, gate.place(), error == 0 ? -1 : 32 * m + at);
    }

    void fine(int m, String text) {
        error(m, text, 0, 0);
    }

    /** The value in this slot in front of instruction i of what was looked through last. */
    void value(int i, int slot, int kind, int c, boolean may, int marks, int origin) {
        String where = "frame(" + i + ", " + slot + ", ";
        due(where + "0)", gate.frame(i, slot, 0), kind);
        due(where + "1)", gate.frame(i, slot, 1), c);
        due(where + "2)", gate.frame(i, slot, 2), may ? 1 : 0);
        due(where + "3)", gate.frame(i, slot, 3), marks);
        due(where + "4)", gate.frame(i, slot, 4), origin);
    }

    void whole(int i, int height, int site, int set) {
        String where = "frame(" + i + ", -1, ";
        due(where + "0)", gate.frame(i, -1, 0), height);
        due(where + "1)", gate.frame(i, -1, 1), site);
        due(where + "2)", gate.frame(i, -1, 2), set);
    }

    void load(int... classes) {
        for (int c : classes) {
            due("load(" + c + ")", gate.load(c), 0);
        }
    }

    void run(int m, int x, int y, int how, int value) {
        String call = "run(" + m + ", " + x + ", " + y + ")";
        due(call, gate.run(m, x, y), how);
        due("value() after " + call, gate.value(), value);
    }
}
