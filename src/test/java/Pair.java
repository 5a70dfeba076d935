import java.util.ArrayList;
import java.util.List;

/** The gate and the model side by side: each call goes to both, and their answers must be the same. */
final class Pair {
    final QualifierGate gate = new QualifierGate();
    final GateModel model = new GateModel();
    private final Report report;
    private final String title;
    private final List<String> calls = new ArrayList<>();

    Pair(Report report, String title) {
        this.report = report;
        this.title = title;
    }

    private int same(String call, int got, int want) {
        calls.add(call);
        if (got != want && report.wrong() < 5) {
            System.out.println(title + " " + calls);
        }
        report.due(title + " " + call, got, want);
        return want;
    }

    private static String text(String name, Object... args) {
        return name + java.util.Arrays.toString(args);
    }

    private static int bit(boolean b) {
        return b ? 1 : 0;
    }

    int cls(int above) {
        return same(text("cls", above), gate.cls(above), model.cls(above));
    }

    int field(int c, int sort, boolean may, int marks) {
        return same(text("field", c, sort, may, marks), gate.field(c, sort, may, marks), model.field(c, sort, may, marks));
    }

    int method(int c, int name, boolean isStatic) {
        return same(text("method", c, name, isStatic), gate.method(c, name, isStatic), model.method(c, name, isStatic));
    }

    int param(int m, int sort, boolean may, int marks) {
        return same(text("param", m, sort, may, marks), gate.param(m, sort, may, marks), model.param(m, sort, may, marks));
    }

    int result(int m, int sort, boolean may, int marks) {
        boolean got = gate.result(m, sort, may, marks);
        return same(text("result", m, sort, may, marks), bit(got), bit(model.result(m, sort, may, marks)));
    }

    int builtIn(int m, int kind) {
        return same(text("builtIn", m, kind), bit(gate.builtIn(m, kind)), bit(model.builtIn(m, kind)));
    }

    int add(int m, int op, int a) {
        return same(text("add", m, op, a), gate.add(m, op, a), model.add(m, op, a));
    }

    int guard(int m, int from, int to, int at) {
        return same(text("guard", m, from, to, at), gate.guard(m, from, to, at), model.guard(m, from, to, at));
    }

    int wipe(int m) {
        return same(text("wipe", m), gate.wipe(m), model.wipe(m));
    }

    int check(int m) {
        int error = same(text("check", m), gate.check(m), model.check(m));
        sameView();
        return error;
    }

    int load(int c) {
        int error = same(text("load", c), gate.load(c), model.load(c));
        for (int d = -1; d < 7; d++) {
            same(text("isLoaded", d), bit(gate.isLoaded(d)), bit(model.isLoaded(d)));
        }
        sameView();
        return error;
    }

    int input(int v) {
        return same(text("input", v), gate.input(v), model.input(v));
    }

    int run(int m, int x, int y) {
        int how = same(text("run", m, x, y), gate.run(m, x, y), model.run(m, x, y));
        sameOutcome();
        return how;
    }

    /** All that place() and frame() tell. */
    void sameView() {
        int mark = calls.size();
        same("place", gate.place(), model.place());
        for (int i = -1; i <= 20; i++) {
            for (int slot = -2; slot <= 10; slot++) {
                for (int what = -1; what <= 5; what++) {
                    int got = gate.frame(i, slot, what);
                    int want = model.frame(i, slot, what);
                    // The texts are made only where they are needed: there are two thousand calls here.
                    if (got != want) {
                        same(text("frame", i, slot, what), got, want);
                    }
                }
            }
        }
        calls.subList(mark, calls.size()).clear();
    }

    void sameOutcome() {
        int mark = calls.size();
        same("value", gate.value(), model.value());
        for (int k = -1; k <= 17; k++) {
            same(text("output", k), gate.output(k), model.output(k));
        }
        for (int what = -1; what <= 5; what++) {
            same(text("told", what), gate.told(what), model.told(what));
        }
        calls.subList(mark, calls.size()).clear();
    }
}
