/** Promises 1 to 10 and FROZEN: a test for each sentence that names a boundary; the sentence is its bench's title. */
public final class EdgesOfMakingTest {
    private static final int BAD = QualifierGate.BAD, FULL = QualifierGate.FULL, FROZEN = QualifierGate.FROZEN;
    private static final int LOW = Integer.MIN_VALUE, HIGH = Integer.MAX_VALUE;
    private static final int[] WRONG_MARKS = {-1, 16, LOW, HIGH};
    private final Report report = new Report();

    public static void main(String[] args) {
        new EdgesOfMakingTest().all();
    }

    private void all() {
        newObject();
        cls();
        field();
        method();
        param();
        result();
        builtIn();
        add();
        guard();
        wipe();
        frozen();
        report.end();
    }

    private Bench bench(String sentence) {
        return new Bench(report, sentence);
    }

    /** Six classes, twelve fields, ten methods; method 0 has three parameters, 20 instructions and two guards. */
    private Bench full(String sentence) {
        Bench b = bench(sentence).classes(0, 0, 0, 0, 0);
        for (int f = 0; f < 12; f++) {
            b.due("field " + f, b.gate.field(1, -1, false, 0), f);
        }
        for (int m = 0; m < 10; m++) {
            b.due("method " + m, b.gate.method(1 + m / 5, m % 5, true), m);
        }
        for (int p = 1; p <= 3; p++) {
            b.due("param " + p, b.gate.param(0, -1, false, 0), p);
        }
        for (int i = 1; i <= 20; i++) {
            b.due("add " + i, b.gate.add(0, 16, 0), i);
        }
        for (int g = 1; g <= 2; g++) {
            b.due("guard " + g, b.gate.guard(0, 0, 19, 0), g);
        }
        return b;
    }

    private Bench fullAndFrozen(String sentence) {
        Bench b = full(sentence);
        b.load(0);
        return b;
    }

    // ---- promise 1

    private void newObject() {
        newObjectHasClassZero();
        newObjectIsNotLoaded();
        newObjectHasNothingElse();
        newObjectWasNotLookedThrough();
        newObjectWasNotRun();
    }

    private void newObjectHasClassZero() {
        Bench b = bench("1: CLASS 0");
        b.due("a FIELD of it, of its SORT", b.gate.field(0, 0, true, 0), 0);
        b.due("a METHOD of it", b.gate.method(0, 0, false), 0);
        b.due("a CLASS below it", b.gate.cls(0), 1);
        Bench c = bench("Terms: CLASS 0 has no SUPER");
        c.due("so it is ready", c.gate.load(0), 0);
    }

    private void newObjectIsNotLoaded() {
        Bench b = bench("1: not LOADED");
        b.due("isLoaded(0)", b.gate.isLoaded(0), false);
        b.due("so nothing is FROZEN", b.gate.cls(0), 1);
        b.due("nor is what is below it ready", b.gate.load(1), QualifierGate.NOT_READY);
    }

    private void newObjectHasNothingElse() {
        Bench b = bench("1: nothing else");
        b.due("no CLASS 1 above", b.gate.cls(1), BAD);
        b.due("no CLASS 1 as OWNER", b.gate.field(1, 0, true, 0), BAD);
        b.due("no CLASS 1 as SORT", b.gate.field(0, 1, true, 0), BAD);
        b.due("no CLASS 1 for a METHOD", b.gate.method(1, 0, true), BAD);
        b.due("no METHOD for param", b.gate.param(0, -1, true, 0), BAD);
        b.due("no METHOD for result", b.gate.result(0, -1, true, 0), false);
        b.due("no METHOD for builtIn", b.gate.builtIn(0, -1), false);
        b.due("no METHOD for add", b.gate.add(0, 16, 0), BAD);
        b.due("no METHOD for guard", b.gate.guard(0, 0, 0, 0), BAD);
        b.due("no METHOD for wipe", b.gate.wipe(0), BAD);
        b.due("no METHOD for check", b.gate.check(0), BAD);
        b.due("no METHOD for run", b.gate.run(0, 0, 0), BAD);
        b.due("no input", b.gate.input(7), 1);
        b.plain(0);
        b.due("no FIELD for GET", b.gate.add(0, 9, 0), BAD);
        b.due("no FIELD for PUT", b.gate.add(0, 10, 0), BAD);
    }

    private void newObjectWasNotLookedThrough() {
        Bench b = bench("1: nothing was looked through; 15: before the first look no INSTRUCTION is REACHED");
        b.due("place()", b.gate.place(), -1);
        for (int i = 0; i < 20; i++) {
            b.due("height at " + i, b.gate.frame(i, -1, 0), -1);
            b.due("site at " + i, b.gate.frame(i, -1, 1), BAD);
            b.due("local 0 at " + i, b.gate.frame(i, 0, 0), BAD);
        }
    }

    private void newObjectWasNotRun() {
        Bench b = bench("1: nothing was run");
        b.due("value()", b.gate.value(), 0);
        for (int k = 0; k < 16; k++) {
            b.due("output(" + k + ")", b.gate.output(k), 0);
        }
        for (int what = 0; what <= 4; what++) {
            b.due("told(" + what + ")", b.gate.told(what), 0);
        }
    }

    // ---- promise 2

    private void cls() {
        Bench b = bench("2: BAD if above is not a CLASS that is there");
        for (int there = 1; there <= 5; there++) {
            for (int above : new int[] {-1, there, LOW, HIGH}) {
                b.due("cls(" + above + ") with " + there, b.gate.cls(above), BAD);
            }
            b.due("the highest that is there", b.gate.cls(there - 1), there);
        }
        Bench c = bench("2: FULL if there are six");
        for (int made = 1; made <= 5; made++) {
            c.due("not with " + made, c.gate.cls(0), made);
        }
        for (int above = 0; above <= 5; above++) {
            c.due("cls(" + above + ") with six", c.gate.cls(above), FULL);
        }
        Bench d = full("2, order: BAD before FULL");
        for (int above : new int[] {-1, 6, LOW, HIGH}) {
            d.due("cls(" + above + ")", d.gate.cls(above), BAD);
        }
        Bench e = fullAndFrozen("2, order: FROZEN before BAD and FULL");
        e.due("FROZEN before BAD", e.gate.cls(6), FROZEN);
        e.due("FROZEN before FULL", e.gate.cls(0), FROZEN);
    }

    // ---- promise 3

    private void field() {
        Bench b = bench("3: BAD if c is no CLASS").classes(0);
        for (int c : new int[] {-1, 2, LOW, HIGH}) {
            b.due("c " + c, b.gate.field(c, -1, false, 0), BAD);
        }
        b.due("the lowest c", b.gate.field(0, -1, false, 0), 0);
        b.due("the highest c", b.gate.field(1, -1, false, 0), 1);
        Bench c = bench("3: BAD if sort is not -1 or a CLASS").classes(0);
        for (int sort : new int[] {-2, 2, LOW, HIGH}) {
            c.due("sort " + sort, c.gate.field(0, sort, false, 0), BAD);
        }
        c.due("the lowest sort", c.gate.field(0, -1, false, 0), 0);
        c.due("the highest sort", c.gate.field(0, 1, false, 0), 1);
        Bench d = bench("3: BAD if marks not 0..15");
        for (int marks : WRONG_MARKS) {
            d.due("marks " + marks, d.gate.field(0, 0, false, marks), BAD);
        }
        d.due("the least marks", d.gate.field(0, 0, false, 0), 0);
        d.due("the most marks", d.gate.field(0, 0, false, 15), 1);
        Bench e = bench("3: FULL if there are twelve").classes(0);
        for (int f = 0; f < 12; f++) {
            e.due("not with " + f, e.gate.field(f % 2, -1, false, 0), f);
        }
        e.due("a thirteenth of CLASS 0", e.gate.field(0, -1, false, 0), FULL);
        e.due("a thirteenth of CLASS 1", e.gate.field(1, 0, true, 15), FULL);
        fieldOrder();
    }

    private void fieldOrder() {
        int[][] wrong = {{6, -1, 0}, {-1, -1, 0}, {0, -2, 0}, {0, 6, 0}, {0, -1, -1}, {0, -1, 16}};
        Bench b = full("3, order: BAD before FULL");
        Bench c = fullAndFrozen("3, order: FROZEN before BAD and FULL");
        for (int[] w : wrong) {
            b.due("BAD before FULL", b.gate.field(w[0], w[1], true, w[2]), BAD);
            c.due("FROZEN before BAD", c.gate.field(w[0], w[1], true, w[2]), FROZEN);
        }
        b.due("FULL if not BAD", b.gate.field(5, 5, true, 15), FULL);
        c.due("FROZEN before FULL", c.gate.field(5, 5, true, 15), FROZEN);
    }

    // ---- promise 4

    private void method() {
        Bench b = bench("4: BAD if c is no CLASS").classes(0);
        for (int c : new int[] {-1, 2, LOW, HIGH}) {
            b.due("c " + c, b.gate.method(c, 0, true), BAD);
        }
        b.due("the lowest c", b.gate.method(0, 0, true), 0);
        b.due("the highest c", b.gate.method(1, 0, true), 1);
        Bench c = bench("4: BAD if name is not 0..5");
        for (int name : new int[] {-1, 6, LOW, HIGH}) {
            c.due("name " + name, c.gate.method(0, name, true), BAD);
        }
        c.due("the lowest name", c.gate.method(0, 0, true), 0);
        c.due("the highest name", c.gate.method(0, 5, true), 1);
        Bench d = bench("4: BAD if c has a METHOD of this NAME").classes(0, 1);
        d.due("the first", d.gate.method(1, 3, true), 0);
        d.due("STATIC again", d.gate.method(1, 3, true), BAD);
        d.due("not STATIC", d.gate.method(1, 3, false), BAD);
        d.due("another NAME", d.gate.method(1, 4, false), 1);
        d.due("the NAME above", d.gate.method(0, 3, false), 2);
        d.due("the NAME below", d.gate.method(2, 3, false), 3);
        d.due("the last one's NAME", d.gate.method(2, 3, false), BAD);
        Bench e = bench("4: FULL if there are ten").classes(0);
        for (int m = 0; m < 10; m++) {
            e.due("not with " + m, e.gate.method(m % 2, m / 2, true), m);
        }
        e.due("an eleventh of CLASS 0", e.gate.method(0, 5, true), FULL);
        e.due("an eleventh of CLASS 1", e.gate.method(1, 5, false), FULL);
        methodOrder();
        methodIsBare();
    }

    private void methodOrder() {
        int[][] wrong = {{6, 0}, {-1, 0}, {0, -1}, {0, 6}, {1, 0}, {2, 4}};
        Bench b = full("4, order: BAD before FULL");
        Bench c = fullAndFrozen("4, order: FROZEN before BAD and FULL");
        for (int[] w : wrong) {
            b.due("BAD before FULL", b.gate.method(w[0], w[1], true), BAD);
            c.due("FROZEN before BAD", c.gate.method(w[0], w[1], true), FROZEN);
        }
        b.due("FULL if not BAD", b.gate.method(0, 0, true), FULL);
        c.due("FROZEN before FULL", c.gate.method(0, 0, true), FROZEN);
    }

    private void methodIsBare() {
        Bench b = bench("4: without PARAMETERS, RESULT, INSTRUCTIONS and GUARDS, not BUILT-IN");
        int filled = b.plain(0);
        b.gate.param(filled, 0, true, 15);
        b.gate.result(filled, 0, true, 15);
        b.gate.guard(filled, 0, 19, 0);
        b.more(filled, "null; give");
        b.gate.builtIn(filled, 0);
        int m = b.plain(1);
        b.due("neither BUILT-IN nor with INSTRUCTIONS", b.gate.check(m), QualifierGate.EMPTY);
        b.due("no INSTRUCTIONS", b.gate.wipe(m), 0);
        b.more(m, "new 0; built; fail; give");
        b.due("no GUARDS", b.gate.check(m), 0);
        b.due("what follows FAIL is not REACHED", b.gate.frame(3, -1, 0), -1);
        b.value(0, 0, Bench.ANY, -1, false, 0, -1);
        b.fine(m, "give");
        b.due("the first PARAMETER", b.gate.param(m, -1, false, 0), 1);
        b.due("the first GUARD", b.gate.guard(m, 0, 0, 0), 1);
    }

    // ---- promise 5

    private void param() {
        Bench b = bench("5: BAD if m is no METHOD");
        b.plain(0);
        b.plain(1);
        for (int m : new int[] {-1, 2, LOW, HIGH}) {
            b.due("m " + m, b.gate.param(m, -1, false, 0), BAD);
        }
        b.due("the lowest m", b.gate.param(0, -1, false, 0), 1);
        b.due("the highest m", b.gate.param(1, -1, false, 0), 1);
        Bench c = bench("5: BAD if sort or marks are not as for field").classes(0);
        c.plain(0);
        for (int sort : new int[] {-2, 2, LOW, HIGH}) {
            c.due("sort " + sort, c.gate.param(0, sort, false, 0), BAD);
        }
        for (int marks : WRONG_MARKS) {
            c.due("marks " + marks, c.gate.param(0, -1, false, marks), BAD);
        }
        c.due("the lowest sort, the least marks", c.gate.param(0, -1, false, 0), 1);
        c.due("the highest sort, the most marks", c.gate.param(0, 1, false, 15), 2);
        Bench d = bench("5: FULL if it has three");
        d.plain(0);
        d.plain(1);
        for (int p = 1; p <= 3; p++) {
            d.due("not before " + p, d.gate.param(0, -1, false, 0), p);
        }
        d.due("a fourth", d.gate.param(0, -1, false, 0), FULL);
        d.due("another METHOD has its own", d.gate.param(1, -1, false, 0), 1);
        d.due("a fourth still", d.gate.param(0, 0, true, 15), FULL);
        int[][] wrong = {{10, -1, 0}, {-1, -1, 0}, {0, -2, 0}, {0, 6, 0}, {0, -1, -1}, {0, -1, 16}};
        Bench e = full("5, order: BAD before FULL");
        Bench f = fullAndFrozen("5, order: FROZEN before BAD and FULL");
        for (int[] w : wrong) {
            e.due("BAD before FULL", e.gate.param(w[0], w[1], true, w[2]), BAD);
            f.due("FROZEN before BAD", f.gate.param(w[0], w[1], true, w[2]), FROZEN);
        }
        f.due("FROZEN before FULL", f.gate.param(0, -1, true, 0), FROZEN);
    }

    // ---- promise 6

    private void result() {
        Bench b = bench("6: False if m is no METHOD");
        b.plain(0);
        for (int m : new int[] {-1, 1, LOW, HIGH}) {
            b.due("m " + m, b.gate.result(m, -1, false, 0), false);
        }
        b.due("the last m", b.gate.result(0, -1, false, 0), true);
        Bench c = bench("6: False if sort is not -2, -1 or a CLASS").classes(0);
        c.plain(0);
        for (int sort : new int[] {-3, 2, LOW, HIGH}) {
            c.due("sort " + sort, c.gate.result(0, sort, false, 0), false);
        }
        for (int sort = -2; sort <= 1; sort++) {
            c.due("sort " + sort, c.gate.result(0, sort, false, 0), true);
        }
        Bench d = bench("6: False if marks not 0..15");
        d.plain(0);
        for (int sort = -2; sort <= 0; sort++) {
            for (int marks : WRONG_MARKS) {
                d.due("sort " + sort + " marks " + marks, d.gate.result(0, sort, false, marks), false);
            }
            d.due("the least marks", d.gate.result(0, sort, false, 0), true);
            d.due("the most marks", d.gate.result(0, sort, false, 15), true);
        }
        Bench e = fullAndFrozen("6: False if FROZEN");
        for (int sort = -2; sort <= 5; sort++) {
            e.due("sort " + sort, e.gate.result(9, sort, true, 0), false);
        }
        Bench f = bench("6: The RESULT is this (sort -2: none)");
        f.plain(0);
        f.gate.result(0, 0, true, 15);
        f.error(0, "give", QualifierGate.STACK, 0);
        f.gate.result(0, -1, true, 15);
        f.error(0, "null; give", QualifierGate.KIND, 1);
        f.gate.result(0, -2, true, 15);
        f.fine(0, "give");
    }

    // ---- promise 7

    private void builtIn() {
        Bench b = bench("7: False if m is no METHOD");
        b.plain(0);
        for (int m : new int[] {-1, 1, LOW, HIGH}) {
            b.due("m " + m, b.gate.builtIn(m, 0), false);
        }
        b.due("the last m", b.gate.builtIn(0, 0), true);
        Bench c = bench("7: False if kind is not -1..2");
        c.plain(0);
        for (int kind : new int[] {-2, 3, LOW, HIGH}) {
            c.due("kind " + kind, c.gate.builtIn(0, kind), false);
            c.due("it is not BUILT-IN then", c.gate.check(0), QualifierGate.EMPTY);
        }
        for (int kind = -1; kind <= 2; kind++) {
            c.due("kind " + kind, c.gate.builtIn(0, kind), true);
            c.due("it is that kind", c.gate.check(0), kind < 0 ? QualifierGate.EMPTY : QualifierGate.OUTSIDE);
        }
        Bench d = fullAndFrozen("7: False if FROZEN");
        for (int kind = -1; kind <= 2; kind++) {
            d.due("kind " + kind, d.gate.builtIn(9, kind), false);
        }
        Bench e = bench("7: its INSTRUCTIONS, if it has any, are not looked at while it is");
        e.plain(0);
        e.gate.result(0, -1, false, 0);
        e.gate.builtIn(0, 0);
        e.due("none", e.gate.check(0), 0);
        e.due("they can be made", e.gate.add(0, 6, 0), 1);
        e.due("a wrong one", e.gate.check(0), 0);
        e.due("nothing is REACHED", e.gate.frame(0, -1, 0), -1);
        e.gate.builtIn(0, -1);
        e.due("a wrong one, when it is not", e.gate.check(0), QualifierGate.WAY);
        e.due("it is REACHED", e.gate.frame(0, -1, 0), 0);
    }

    // ---- promise 8

    private void add() {
        Bench b = bench("8: BAD if m is no METHOD");
        b.plain(0);
        for (int m : new int[] {-1, 1, LOW, HIGH}) {
            b.due("m " + m, b.gate.add(m, 16, 0), BAD);
        }
        b.due("the last m", b.gate.add(0, 16, 0), 1);
        Bench c = bench("8: BAD if op not 0..17");
        c.plain(0);
        for (int op : new int[] {-1, 18, LOW, HIGH}) {
            c.due("op " + op, c.gate.add(0, op, 0), BAD);
        }
        c.due("the lowest op", c.gate.add(0, 0, 0), 1);
        c.due("the highest op", c.gate.add(0, 17, 0), 2);
        argument("a not 0..5 (LOAD)", 2, 5);
        argument("a not 0..5 (STORE)", 3, 5);
        argument("a not a CLASS that is there (NEW)", 7, 2);
        argument("a not a CLASS that is there (CAST)", 12, 2);
        argument("a not a FIELD (GET)", 9, 3);
        argument("a not a FIELD (PUT)", 10, 3);
        argument("a not a METHOD (CALL)", 11, 1);
        argument("a not 0..19 (GO)", 13, 19);
        argument("a not 0..19 (ZERO)", 14, 19);
        argument("a not 0..19 (ISNULL)", 15, 19);
        for (int op : new int[] {0, 1, 4, 5, 6, 8, 16, 17}) {
            Bench d = bench("8: for others any a goes, op " + op);
            d.plain(0);
            int count = 0;
            for (int a : new int[] {-1, 0, 20, LOW, HIGH}) {
                count++;
                d.due("a " + a, d.gate.add(0, op, a), count);
            }
        }
        addFull();
    }

    /** With three classes, four fields and two methods, a goes up to the highest for this op, and no further. */
    private void argument(String why, int op, int highest) {
        Bench b = bench("8: BAD if " + why).classes(0, 0);
        for (int f = 0; f < 4; f++) {
            b.gate.field(0, -1, false, 0);
        }
        b.plain(0);
        b.plain(1);
        for (int a : new int[] {-1, highest + 1, LOW, HIGH}) {
            b.due("a " + a, b.gate.add(0, op, a), BAD);
        }
        b.due("the lowest a", b.gate.add(0, op, 0), 1);
        b.due("the highest a", b.gate.add(0, op, highest), 2);
    }

    private void addFull() {
        Bench b = bench("8: FULL if it has 20");
        b.plain(0);
        b.plain(1);
        for (int i = 1; i <= 20; i++) {
            b.due("not before " + i, b.gate.add(0, 16, 0), i);
        }
        b.due("one more", b.gate.add(0, 16, 0), FULL);
        b.due("another METHOD has its own", b.gate.add(1, 16, 0), 1);
        b.due("20 were there", b.gate.wipe(0), 20);
        b.due("there is room again", b.gate.add(0, 16, 0), 1);
        int[][] wrong = {{10, 16, 0}, {-1, 16, 0}, {0, -1, 0}, {0, 18, 0}, {0, 2, 6}, {0, 7, 6}, {0, 9, 12}, {0, 11, 10}, {0, 13, 20}};
        Bench c = full("8, order: BAD before FULL");
        Bench d = fullAndFrozen("8, order: FROZEN before BAD and FULL");
        for (int[] w : wrong) {
            c.due("BAD before FULL", c.gate.add(w[0], w[1], w[2]), BAD);
            d.due("FROZEN before BAD", d.gate.add(w[0], w[1], w[2]), FROZEN);
        }
        c.due("FULL if not BAD", c.gate.add(0, 7, 5), FULL);
        d.due("FROZEN before FULL", d.gate.add(0, 7, 5), FROZEN);
    }

    // ---- promise 9

    private void guard() {
        Bench b = bench("9: BAD if m is no METHOD");
        b.plain(0);
        for (int m : new int[] {-1, 1, LOW, HIGH}) {
            b.due("m " + m, b.gate.guard(m, 0, 0, 0), BAD);
        }
        b.due("the last m", b.gate.guard(0, 0, 0, 0), 1);
        Bench c = bench("9: BAD if a number is not 0..19");
        c.plain(0);
        for (int wrong : new int[] {-1, 20, LOW, HIGH}) {
            c.due("from " + wrong, c.gate.guard(0, wrong, 19, 0), BAD);
            c.due("to " + wrong, c.gate.guard(0, 0, wrong, 0), BAD);
            c.due("at " + wrong, c.gate.guard(0, 0, 19, wrong), BAD);
            c.due("from and to " + wrong, c.gate.guard(0, wrong, wrong, 0), BAD);
        }
        c.due("the lowest", c.gate.guard(0, 0, 0, 0), 1);
        c.due("the highest", c.gate.guard(0, 19, 19, 19), 2);
        Bench d = bench("9: BAD if from is above to");
        d.plain(0);
        d.due("by one", d.gate.guard(0, 8, 7, 0), BAD);
        d.due("by all", d.gate.guard(0, 19, 0, 0), BAD);
        d.due("not if they are the same", d.gate.guard(0, 7, 7, 0), 1);
        d.due("nor if it is below", d.gate.guard(0, 7, 8, 0), 2);
        Bench e = bench("9: FULL if it has two");
        e.plain(0);
        e.plain(1);
        e.due("the first", e.gate.guard(0, 0, 0, 0), 1);
        e.due("the second, the same", e.gate.guard(0, 0, 0, 0), 2);
        e.due("a third", e.gate.guard(0, 1, 1, 1), FULL);
        e.due("another METHOD has its own", e.gate.guard(1, 0, 0, 0), 1);
        e.gate.wipe(0);
        e.due("there is room again", e.gate.guard(0, 0, 0, 0), 1);
        int[][] wrong = {{10, 0, 0, 0}, {-1, 0, 0, 0}, {0, -1, 0, 0}, {0, 0, 20, 0}, {0, 0, 0, 20}, {0, 1, 0, 0}};
        Bench f = full("9, order: BAD before FULL");
        Bench g = fullAndFrozen("9, order: FROZEN before BAD and FULL");
        for (int[] w : wrong) {
            f.due("BAD before FULL", f.gate.guard(w[0], w[1], w[2], w[3]), BAD);
            g.due("FROZEN before BAD", g.gate.guard(w[0], w[1], w[2], w[3]), FROZEN);
        }
        g.due("FROZEN before FULL", g.gate.guard(0, 0, 0, 0), FROZEN);
    }

    // ---- promise 10

    private void wipe() {
        Bench b = bench("10: BAD if m is no METHOD");
        b.plain(0);
        for (int m : new int[] {-1, 1, LOW, HIGH}) {
            b.due("m " + m, b.gate.wipe(m), BAD);
        }
        b.due("the last m", b.gate.wipe(0), 0);
        Bench c = full("10: how many INSTRUCTIONS there were");
        c.due("all", c.gate.wipe(0), 20);
        c.due("none", c.gate.wipe(0), 0);
        c.more(0, "give");
        c.due("one", c.gate.wipe(0), 1);
        Bench d = bench("10: The INSTRUCTIONS and GUARDS of METHOD m are no more");
        d.plain(0);
        d.gate.param(0, -1, false, 3);
        d.gate.result(0, -1, false, 3);
        d.more(0, "new 0; built; fail; load 0; give");
        d.gate.guard(0, 0, 19, 3);
        d.gate.guard(0, 0, 19, 3);
        d.plain(1);
        d.more(1, "give; give");
        d.gate.wipe(0);
        d.due("no INSTRUCTIONS", d.gate.check(0), QualifierGate.EMPTY);
        d.due("those of another METHOD are", d.gate.wipe(1), 2);
        d.fine(0, "new 0; built; fail; load 0; give");
        d.due("nothing is guarded", d.gate.frame(3, -1, 0), -1);
        d.fine(0, "load 0; give");
        d.due("PARAMETERS stay", d.gate.param(0, -1, false, 0), 2);
        d.error(0, "give", QualifierGate.STACK, 0);
        d.gate.builtIn(0, 0);
        d.gate.wipe(0);
        d.due("BUILT-IN stays", d.gate.check(0), 0);
        Bench e = fullAndFrozen("10, order: FROZEN before BAD");
        e.due("no METHOD", e.gate.wipe(10), FROZEN);
        e.due("a METHOD", e.gate.wipe(0), FROZEN);
    }

    // ---- FROZEN

    private void frozen() {
        Bench b = bench("FROZEN: as soon as a CLASS is LOADED").classes(0);
        b.plain(0);
        b.due("a check", b.gate.check(0), QualifierGate.EMPTY);
        b.due("freezes nothing", b.gate.cls(0), 2);
        b.due("a load that was BAD", b.gate.load(6), BAD);
        b.due("freezes nothing", b.gate.cls(0), 3);
        b.due("a load that was NOT_READY", b.gate.load(1), QualifierGate.NOT_READY);
        b.due("freezes nothing", b.gate.cls(0), 4);
        b.due("a load that found an ERROR", b.gate.load(0), QualifierGate.EMPTY);
        b.due("freezes nothing", b.gate.add(0, 16, 0), 1);
        b.load(0);
        b.due("one that LOADS does", b.gate.cls(0), FROZEN);
        Bench c = bench("FROZEN: nothing can be made or changed of a CLASS that is not LOADED, either").classes(0);
        int m = c.gate.method(1, 0, true);
        c.load(0);
        c.due("cls", c.gate.cls(1), FROZEN);
        c.due("field", c.gate.field(1, -1, true, 0), FROZEN);
        c.due("method", c.gate.method(1, 1, true), FROZEN);
        c.due("param", c.gate.param(m, -1, true, 0), FROZEN);
        c.due("result", c.gate.result(m, -1, true, 0), false);
        c.due("builtIn", c.gate.builtIn(m, 0), false);
        c.due("add", c.gate.add(m, 16, 0), FROZEN);
        c.due("guard", c.gate.guard(m, 0, 0, 0), FROZEN);
        c.due("wipe", c.gate.wipe(m), FROZEN);
        c.due("it is as it was", c.gate.load(1), QualifierGate.EMPTY);
        Bench d = bench("FROZEN: by those nine; the others go on").classes(0);
        d.load(0);
        d.due("input", d.gate.input(1), 1);
        d.due("load", d.gate.load(1), 0);
        d.due("check", d.gate.check(0), BAD);
    }
}
