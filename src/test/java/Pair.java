import java.util.ArrayList;
import java.util.Arrays;
import java.util.List;

/**
 * The gate and the model side by side: each call goes to both, and their answers must be the same.
 * What only asks, and asks much, goes to further gates to which all calls so far were made again, so that
 * no gate is asked more than 512 calls.
 */
final class Pair {
    private interface Call {
        int on(Gate gate);
    }

    final GateModel model;
    private final Gate gate;
    private Gate copy;
    private final Report report;
    private final String title;
    private final List<Call> calls = new ArrayList<>();
    private final List<String> texts = new ArrayList<>();

    Pair(Report report, String title) {
        this(report, title, new GateModel(), new Gate());
    }

    private Pair(Report report, String title, GateModel model, Gate gate) {
        this.report = report;
        this.title = title;
        this.model = model;
        this.gate = gate;
    }

    /** A further gate that stands where this one does, with the same model. */
    Pair fork() {
        Pair other = new Pair(report, title, model, again());
        other.calls.addAll(calls);
        other.texts.addAll(texts);
        return other;
    }

    int callsLeft() {
        return gate.callsLeft();
    }

    private Gate again() {
        Gate made = new Gate();
        for (Call call : calls) {
            call.on(made);
        }
        return made;
    }

    private int same(String text, Call call, int want) {
        calls.add(call);
        texts.add(text);
        compare(text, call.on(gate), want);
        return want;
    }

    private void compare(String text, int got, int want) {
        if (got != want && report.wrong() < 5) {
            System.out.println(title + " " + texts);
        }
        report.due(title + " " + text, got, want);
    }

    /** For what changes nothing: it is asked of a copy, and the text is made only where it is needed. */
    private void probe(String name, Call call, int want, int... args) {
        if (copy == null || copy.callsLeft() == 0) {
            copy = again();
        }
        int got = call.on(copy);
        if (got == want) {
            report.fine();
        } else {
            compare(name + Arrays.toString(args), got, want);
        }
    }

    private static String text(String name, Object... args) {
        return name + Arrays.toString(args);
    }

    private static int bit(boolean b) {
        return b ? 1 : 0;
    }

    int cls(int above) {
        return same(text("cls", above), g -> g.cls(above), model.cls(above));
    }

    int field(int c, int sort, boolean may, int marks) {
        return same(text("field", c, sort, may, marks), g -> g.field(c, sort, may, marks), model.field(c, sort, may, marks));
    }

    int method(int c, int name, boolean isStatic) {
        return same(text("method", c, name, isStatic), g -> g.method(c, name, isStatic), model.method(c, name, isStatic));
    }

    int param(int m, int sort, boolean may, int marks) {
        return same(text("param", m, sort, may, marks), g -> g.param(m, sort, may, marks), model.param(m, sort, may, marks));
    }

    int result(int m, int sort, boolean may, int marks) {
        int want = bit(model.result(m, sort, may, marks));
        return same(text("result", m, sort, may, marks), g -> bit(g.result(m, sort, may, marks)), want);
    }

    int builtIn(int m, int kind) {
        return same(text("builtIn", m, kind), g -> bit(g.builtIn(m, kind)), bit(model.builtIn(m, kind)));
    }

    int add(int m, int op, int a) {
        return same(text("add", m, op, a), g -> g.add(m, op, a), model.add(m, op, a));
    }

    int guard(int m, int from, int to, int at) {
        return same(text("guard", m, from, to, at), g -> g.guard(m, from, to, at), model.guard(m, from, to, at));
    }

    int wipe(int m) {
        return same(text("wipe", m), g -> g.wipe(m), model.wipe(m));
    }

    int check(int m) {
        int error = same(text("check", m), g -> g.check(m), model.check(m));
        sameView();
        return error;
    }

    int load(int c) {
        int error = same(text("load", c), g -> g.load(c), model.load(c));
        sameView();
        return error;
    }

    int input(int v) {
        return same(text("input", v), g -> g.input(v), model.input(v));
    }

    int run(int m, int x, int y) {
        int how = same(text("run", m, x, y), g -> g.run(m, x, y), model.run(m, x, y));
        sameOutcome();
        return how;
    }

    /** All that place(), isLoaded() and frame() tell. */
    void sameView() {
        copy = null;
        probe("place", Gate::place, model.place());
        for (int c = -1; c < 7; c++) {
            int d = c;
            probe("isLoaded", g -> bit(g.isLoaded(d)), bit(model.isLoaded(d)), d);
        }
        for (int i = -1; i <= 20; i++) {
            boolean reached = model.frame(i, -1, 0) >= 0;
            for (int slot = reached ? -2 : -1; slot <= (reached ? 10 : 0); slot++) {
                for (int what = reached ? -1 : 0; what <= (reached ? 5 : 1); what++) {
                    sameFrame(i, slot, what);
                }
            }
        }
    }

    private void sameFrame(int i, int slot, int what) {
        probe("frame", g -> g.frame(i, slot, what), model.frame(i, slot, what), i, slot, what);
    }

    void sameOutcome() {
        copy = null;
        probe("value", Gate::value, model.value());
        for (int at = -1; at <= 17; at++) {
            int k = at;
            probe("output", g -> g.output(k), model.output(k), k);
        }
        for (int asked = -1; asked <= 5; asked++) {
            int what = asked;
            probe("told", g -> g.told(what), model.told(what), what);
        }
    }
}
