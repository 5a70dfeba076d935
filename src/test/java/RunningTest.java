/** Promises 16 to 20: what runs do, how they end and what is told of them. */
public final class RunningTest {
    private static final int BAD = QualifierGate.BAD, FULL = QualifierGate.FULL;
    private static final int DONE = QualifierGate.DONE, THROWN = QualifierGate.THROWN, HEAP = QualifierGate.HEAP,
        DEEP = QualifierGate.DEEP, LONG = QualifierGate.LONG, UNLOADED = QualifierGate.UNLOADED;
    private final Report report = new Report();

    public static void main(String[] args) {
        new RunningTest().all();
    }

    private void all() {
        inputs();
        refusedRuns();
        arithmetic();
        objects();
        manyFields();
        fullStacks();
        dispatch();
        farDispatch();
        casts();
        thrown();
        heap();
        deep();
        tooLong();
        unloaded();
        builtIns();
        values();
        outputs();
        told();
        report.end();
    }

    private Bench bench(String title) {
        return new Bench(report, title);
    }

    /** Method 0, static, of class 0: two INTS to an INT. */
    private Bench adder(String title, String code) {
        Bench b = bench(title);
        b.plain(0);
        b.gate.param(0, -1, false, 0);
        b.gate.param(0, -1, false, 0);
        b.gate.result(0, -1, false, 15);
        b.more(0, code);
        return b;
    }

    private void told(Bench b, int begun, int made, int putOut, int taken, int most) {
        int[] due = {begun, made, putOut, taken, most};
        for (int what = 0; what < due.length; what++) {
            b.due("told(" + what + ")", b.gate.told(what), due[what]);
        }
    }

    private void inputs() {
        Bench b = adder("promise 16", "go 0");
        b.plain(1);
        b.code(0, "call 1; call 1; add; give");
        b.gate.result(1, -1, false, 0);
        b.gate.builtIn(1, 0);
        b.load(0);
        b.run(0, 0, 0, DONE, 0);
        told(b, 4, 0, 0, 2, 1);
        for (int v = 1; v <= 8; v++) {
            b.due("input(" + 10 * v + ")", b.gate.input(10 * v), v);
            b.run(0, 0, 0, DONE, v == 1 ? 10 : 30);
            told(b, 4, 0, 0, 2, 1);
        }
        b.due("a ninth", b.gate.input(1), FULL);
        b.run(0, 0, 0, DONE, 30);
        Bench c = adder("promise 16, behind the last one", "go 0");
        c.plain(1);
        c.gate.result(1, -1, false, 0);
        c.gate.builtIn(1, 0);
        c.code(0, "load 0; zero 9; call 1; store 1; load 0; number -1; add; store 0; go 0; load 1; give");
        for (int v = 1; v <= 8; v++) {
            c.gate.input(-v);
        }
        c.load(0);
        c.run(0, 8, 0, DONE, -8);
        c.run(0, 9, 1, DONE, 0);
        c.run(0, 30, 1, DONE, 0);
        c.due("told(3)", c.gate.told(3), 30);
    }

    private void refusedRuns() {
        Bench b = bench("promise 17, BAD").classes(0);
        b.due("no METHOD", b.gate.run(0, 0, 0), BAD);
        b.plain(0);
        b.gate.result(0, -1, false, 0);
        b.more(0, "number 5; give");
        b.due("not LOADED", b.gate.run(0, 0, 0), BAD);
        b.gate.method(0, 1, false);
        b.more(1, "give");
        b.plain(2);
        b.gate.result(2, -1, false, 0);
        b.gate.builtIn(2, 0);
        b.plain(3);
        b.more(3, "give");
        b.gate.param(3, -1, false, 0);
        b.gate.param(3, -1, false, 0);
        b.gate.param(3, -1, false, 0);
        b.plain(4);
        b.more(4, "give");
        b.gate.param(4, -1, false, 0);
        b.gate.param(4, 0, true, 0);
        b.gate.method(1, 5, true);
        b.more(5, "give");
        b.plain(5);
        b.more(6, "give");
        b.gate.param(6, 0, true, 0);
        b.load(0);
        b.run(0, 0, 0, DONE, 5);
        for (int m : new int[] {-1, 1, 2, 3, 4, 5, 6, 7, 10, Integer.MIN_VALUE, Integer.MAX_VALUE}) {
            b.due("run(" + m + ")", b.gate.run(m, 1, 2), BAD);
            b.due("the latest run stays", b.gate.value(), 5);
            b.due("the latest run stays", b.gate.told(0), 2);
        }
    }

    private void arithmetic() {
        Bench b = adder("ADD, ZERO, STORE", "load 0; load 1; add; give");
        b.load(0);
        b.run(0, 3, 4, DONE, 7);
        b.run(0, Integer.MAX_VALUE, 1, DONE, Integer.MIN_VALUE);
        b.run(0, -5, -6, DONE, -11);
        Bench c = adder("a loop", "load 0; zero 12; load 0; number -1; add; store 0; load 1; number 3; add; store 1; go 0; fail; load 1; give");
        c.load(0);
        c.run(0, 0, 8, DONE, 8);
        c.run(0, 5, 8, DONE, 23);
        told(c, 11 * 5 + 4, 0, 0, 0, 1);
        Bench d = adder("DUP, POP, ISNULL", "load 0; dup; add; null; isnull 6; go 6; number 1; pop; give");
        d.load(0);
        d.run(0, 21, 0, DONE, 42);
        told(d, 8, 0, 0, 0, 1);
        Bench e = bench("x alone");
        e.plain(0);
        e.gate.param(0, -1, false, 0);
        e.gate.result(0, -1, false, 0);
        e.more(0, "load 0; give");
        e.plain(1);
        e.more(1, "load 1; pop; give");
        e.load(0);
        e.run(0, 9, 8, DONE, 9);
        e.run(1, 9, 8, DONE, 0);
    }

    private void objects() {
        Bench b = adder("FIELDS", "go 0").classes(0);
        b.gate.field(0, -1, false, 0);
        b.gate.field(1, -1, false, 0);
        b.code(0, "new 1; dup; load 0; put 0; built; dup; get 0; store 2; dup; load 1; put 1; get 1; load 2; add; give");
        b.gate.method(0, 1, true);
        b.gate.result(1, -1, false, 0);
        b.gate.field(0, 0, true, 0);
        b.more(1, "new 0; built; dup; get 2; isnull 7; number 1; give; get 0; give");
        b.load(0, 1);
        b.run(0, 40, 2, DONE, 42);
        told(b, 15, 1, 0, 0, 1);
        b.run(1, 0, 0, DONE, 0);
        told(b, 7, 1, 0, 0, 1);
    }

    /** Three objects with twelve fields each keep apart what they hold. */
    private void manyFields() {
        Bench b = bench("twelve FIELDS");
        for (int f = 0; f < 12; f++) {
            b.gate.field(0, f == 11 ? 0 : -1, true, 0);
        }
        b.plain(0);
        b.gate.param(0, -1, false, 0);
        b.gate.param(0, -1, false, 0);
        b.gate.result(0, 0, false, 0);
        b.more(0, "new 0; built; dup; load 0; put 0; dup; load 1; put 10; give");
        b.plain(1);
        b.gate.param(1, -1, false, 0);
        b.gate.param(1, -1, false, 0);
        b.gate.result(1, 0, false, 0);
        b.more(1, "load 0; load 1; call 0; dup; load 1; load 0; call 0; put 11; give");
        for (int m = 2; m < 6; m++) {
            b.plain(m);
            b.gate.param(m, -1, false, 0);
            b.gate.param(m, -1, false, 0);
            b.gate.result(m, -1, false, 0);
        }
        b.more(2, "load 0; load 1; call 1; get 0; give");
        b.more(3, "load 0; load 1; call 1; get 10; give");
        b.more(4, "load 0; load 1; call 1; get 11; store 2; load 2; isnull 10; load 2; get 0; give; number -1; give");
        b.more(5, "load 0; load 1; call 1; get 11; store 2; load 2; isnull 10; load 2; get 10; give; number -1; give");
        b.load(0);
        b.run(2, 3, 4, DONE, 3);
        b.run(3, 3, 4, DONE, 4);
        b.run(4, 3, 4, DONE, 4);
        b.run(5, 3, 4, DONE, 3);
        b.due("told(1)", b.gate.told(1), 2);
        Bench c = adder("objects made anew", "go 0");
        c.gate.field(0, -1, false, 0);
        c.gate.field(0, -1, false, 0);
        c.code(0, "new 0; dup; get 1; store 2; load 0; put 1; load 2; give");
        c.load(0);
        c.run(0, 6, 0, DONE, 0);
        c.run(0, 7, 0, DONE, 0);
    }

    private void fullStacks() {
        Bench b = adder("four on the stack", "load 0; load 1; number 100; number 1000; add; add; add; give");
        b.plain(1);
        b.gate.result(1, -1, false, 0);
        b.more(1, "new 0; built; fail; number 1; number 2; number 4; add; add; store 0; pop; load 0; give");
        b.gate.guard(1, 2, 2, 3);
        b.plain(2);
        b.gate.param(2, -1, false, 0);
        b.gate.param(2, -1, false, 0);
        b.gate.param(2, -1, false, 0);
        b.gate.result(2, -1, false, 0);
        b.more(2, "load 0; load 0; add; load 1; add; load 2; load 2; add; number 10; add; add; give");
        b.plain(3);
        b.gate.result(3, -1, false, 0);
        b.more(3, "number 1; number 2; number 30; number 400; call 2; add; give");
        b.load(0);
        b.run(0, 1, 10, DONE, 1111);
        b.run(1, 0, 0, DONE, 7);
        b.run(3, 0, 0, DONE, 2 * 2 + 30 + 2 * 400 + 10 + 1);
    }

    private void farDispatch() {
        Bench b = bench("CALL done five above").classes(0, 1, 2, 3, 4);
        b.gate.method(0, 0, false);
        b.gate.result(0, 0, false, 0);
        b.more(0, "load 0; give");
        b.plain(1);
        b.gate.result(1, 0, false, 0);
        b.more(1, "new 5; built; call 0; give");
        b.load(0, 1, 2, 3, 4, 5);
        b.run(1, 0, 0, DONE, 5);
    }

    private void dispatch() {
        Bench b = bench("CALL by the CLASS of the object").classes(0, 1, 2);
        for (int c : new int[] {0, 2}) {
            int m = b.gate.method(c, 0, false);
            b.gate.param(m, -1, false, 0);
            b.gate.param(m, -1, false, 0);
            b.gate.result(m, -1, false, 0);
            b.more(m, c == 0 ? "load 1; give" : "load 2; give");
        }
        for (int c = 0; c <= 3; c++) {
            int m = b.gate.method(0, 1 + c, true);
            b.gate.param(m, -1, false, 0);
            b.gate.param(m, -1, false, 0);
            b.gate.result(m, -1, false, 0);
            b.more(m, "new " + c + "; built; load 0; load 1; call 0; give");
        }
        b.load(0, 1, 2, 3);
        b.run(2, 5, 6, DONE, 5);
        b.run(3, 5, 6, DONE, 5);
        b.run(4, 5, 6, DONE, 6);
        b.run(5, 5, 6, DONE, 6);
        told(b, 8, 1, 0, 0, 2);
    }

    private void casts() {
        Bench b = bench("CAST").classes(0, 1);
        for (int c = 0; c <= 2; c++) {
            b.plain(c);
            b.gate.result(c, 0, true, 0);
            b.more(c, "new " + c + "; built; cast 1; give");
        }
        b.plain(3);
        b.gate.result(3, 2, true, 0);
        b.more(3, "null; cast 2; give");
        b.load(0, 1, 2);
        b.run(0, 0, 0, THROWN, 0);
        told(b, 3, 1, 0, 0, 1);
        b.run(1, 0, 0, DONE, 1);
        b.run(2, 0, 0, DONE, 2);
        b.run(3, 0, 0, DONE, -1);
    }

    private void thrown() {
        Bench b = bench("what is thrown").classes(0);
        b.plain(0);
        b.more(0, "new 1; built; fail");
        b.plain(1);
        b.more(1, "number 4; call 0; pop; give");
        b.plain(2);
        b.gate.result(2, -1, false, 0);
        b.more(2, "number 7; store 0; number 1; number 2; call 1; number 3; give; pop; load 0; give");
        b.gate.guard(2, 4, 4, 7);
        b.plain(3);
        b.gate.result(3, 0, false, 0);
        b.more(3, "call 1; go 0; give; give");
        b.gate.guard(3, 0, 0, 2);
        b.gate.guard(3, 0, 5, 3);
        b.plain(4);
        b.more(4, "call 1; give; fail");
        b.gate.guard(4, 0, 2, 2);
        b.load(0, 1);
        b.run(0, 0, 0, THROWN, 1);
        told(b, 3, 1, 0, 0, 1);
        b.run(1, 0, 0, THROWN, 1);
        told(b, 5, 1, 0, 0, 2);
        b.run(2, 0, 0, DONE, 7);
        told(b, 13, 1, 0, 0, 3);
        b.run(3, 0, 0, DONE, 1);
        told(b, 7, 1, 0, 0, 3);
        // A FAIL that guards itself comes back to itself until the end.
        b.run(4, 0, 0, LONG, 0);
        told(b, 400, 1, 0, 0, 3);
    }

    private void heap() {
        Bench b = adder("HEAP", "load 0; zero 9; load 0; number -1; add; store 0; new 0; pop; go 0; number 1; give");
        b.load(0);
        b.run(0, 24, 0, DONE, 1);
        told(b, 24 * 9 + 4, 24, 0, 0, 1);
        b.run(0, 25, 0, HEAP, 0);
        told(b, 24 * 9 + 7, 24, 0, 0, 1);
        b.run(0, 24, 0, DONE, 1);
    }

    private void deep() {
        Bench b = adder("DEEP", "go 0");
        b.plain(1);
        b.gate.result(1, -1, false, 0);
        b.gate.builtIn(1, 0);
        b.code(0, "load 0; zero 8; load 0; number -1; add; load 1; call 0; give; call 1; give");
        b.gate.input(77);
        b.load(0);
        b.run(0, 0, 0, DONE, 77);
        told(b, 4, 0, 0, 1, 1);
        b.run(0, 5, 0, DONE, 77);
        told(b, 5 * 8 + 4, 0, 0, 1, 6);
        b.run(0, 6, 0, DEEP, 0);
        told(b, 6 * 7, 0, 0, 0, 6);
    }

    private void tooLong() {
        String rounds = "load 0; zero 7; load 0; number -1; add; store 0; go 0; ";
        Bench b = adder("LONG", rounds + "number 6; give");
        b.load(0);
        b.run(0, 56, 0, DONE, 6);
        told(b, 56 * 7 + 4, 0, 0, 0, 1);
        b.run(0, 57, 0, LONG, 0);
        told(b, 400, 0, 0, 0, 1);
        Bench c = adder("LONG, the last one gives", rounds + "number 6; pop; number 6; pop; number 6; give");
        c.load(0);
        c.run(0, 56, 0, DONE, 6);
        told(c, 400, 0, 0, 0, 1);
        Bench d = adder("LONG, one more would give", rounds + "number 6; pop; number 6; pop; number 6; dup; give");
        d.load(0);
        d.run(0, 56, 0, LONG, 0);
        told(d, 400, 0, 0, 0, 1);
    }

    private void unloaded() {
        Bench b = bench("UNLOADED").classes(0);
        b.plain(0);
        b.more(0, "new 1; pop; give");
        b.gate.method(1, 1, true);
        b.more(1, "give");
        b.plain(2);
        b.more(2, "call 1; give");
        b.gate.method(1, 3, true);
        b.gate.result(3, -1, false, 0);
        b.gate.builtIn(3, 0);
        b.plain(4);
        b.more(4, "call 3; pop; give");
        b.gate.method(0, 5, true);
        b.gate.param(5, -1, false, 0);
        b.more(5, "load 0; zero 7; load 0; number -1; add; call 5; give; call 1; give");
        b.load(0);
        b.run(0, 0, 0, UNLOADED, 0);
        told(b, 1, 0, 0, 0, 1);
        b.run(2, 0, 0, UNLOADED, 0);
        told(b, 1, 0, 0, 0, 1);
        b.run(4, 0, 0, UNLOADED, 0);
        told(b, 1, 0, 0, 0, 1);
        b.run(5, 5, 0, UNLOADED, 0);
        told(b, 5 * 6 + 3, 0, 0, 0, 6);
        b.load(1);
        b.run(0, 0, 0, DONE, 0);
        b.run(2, 0, 0, DONE, 0);
        b.run(4, 0, 0, DONE, 0);
        b.run(5, 5, 0, DEEP, 0);
        b.run(5, 4, 0, DONE, 0);
        Bench c = bench("UNLOADED before HEAP").classes(0);
        c.plain(0);
        c.gate.param(0, -1, false, 0);
        c.more(0, "load 0; zero 9; load 0; number -1; add; store 0; new 0; pop; go 0; new 1; give");
        c.load(0);
        c.run(0, 24, 0, UNLOADED, 0);
        c.load(1);
        c.run(0, 24, 0, HEAP, 0);
        c.run(0, 23, 0, DONE, 0);
    }

    private void builtIns() {
        Bench b = bench("BUILT-IN").classes(0);
        int reads = b.gate.method(0, 0, false);
        b.gate.result(reads, -1, false, 0);
        b.gate.builtIn(reads, 0);
        int writes = b.plain(1);
        b.gate.param(writes, -1, false, 15);
        b.gate.param(writes, -1, false, 15);
        b.gate.builtIn(writes, 1);
        int same = b.plain(2);
        b.gate.param(same, 1, true, 15);
        b.gate.param(same, 0, true, 15);
        b.gate.result(same, 0, true, 0);
        b.gate.builtIn(same, 2);
        int lower = b.gate.method(1, 0, false);
        b.gate.result(lower, -1, false, 0);
        b.more(lower, "number 50; give");
        int m = b.plain(3);
        b.gate.result(m, 0, true, 0);
        b.more(m, "new 0; built; call 0; new 1; built; call 0; call 1; new 1; built; new 0; built; call 2; give");
        int n = b.plain(4);
        b.gate.result(n, -1, false, 0);
        int self = b.gate.method(1, 5, false);
        b.gate.param(self, -1, false, 0);
        b.gate.result(self, -1, false, 0);
        b.gate.builtIn(self, 2);
        b.more(n, "new 1; built; number 33; call " + self + "; give");
        b.gate.input(8);
        b.gate.input(9);
        b.load(0, 1);
        b.run(m, 0, 0, DONE, 1);
        b.due("output(0)", b.gate.output(0), 8);
        b.due("output(1)", b.gate.output(1), 0);
        told(b, 15, 4, 1, 1, 2);
        b.run(n, 0, 0, DONE, 33);
        told(b, 5, 1, 0, 0, 1);
    }

    private void values() {
        Bench b = bench("promise 18").classes(0);
        String[] codes = {"number -7; give", "new 1; built; give", "null; give", "give", "new 1; built; fail"};
        int[] sorts = {-1, 0, 1, -2, -1};
        int[] hows = {DONE, DONE, DONE, DONE, THROWN};
        int[] dues = {-7, 1, -1, 0, 1};
        for (int m = 0; m < codes.length; m++) {
            b.plain(m);
            b.gate.result(m, sorts[m], true, 0);
            b.more(m, codes[m]);
        }
        b.plain(5);
        b.more(5, "number 3; pop; go 0");
        b.due("value() before", b.gate.value(), 0);
        b.load(0, 1);
        b.due("value() before", b.gate.value(), 0);
        for (int m = 0; m < codes.length; m++) {
            b.run(m, 0, 0, hows[m], dues[m]);
            b.run(5, 0, 0, LONG, 0);
        }
    }

    private void outputs() {
        Bench b = adder("promise 19", "go 0");
        b.gate.result(0, -2, false, 0);
        b.plain(1);
        b.gate.param(1, -1, false, 0);
        b.gate.builtIn(1, 1);
        b.code(0, "load 0; zero 9; load 0; call 1; load 0; number -1; add; store 0; go 0; give");
        b.load(0);
        b.run(0, 20, 0, DONE, 0);
        b.due("told(2)", b.gate.told(2), 20);
        for (int k = 0; k < 16; k++) {
            b.due("output(" + k + ")", b.gate.output(k), 20 - k);
        }
        for (int k : new int[] {-1, 16, 17, 19, 20, Integer.MIN_VALUE, Integer.MAX_VALUE}) {
            b.due("output(" + k + ")", b.gate.output(k), 0);
        }
        b.run(0, 2, 0, DONE, 0);
        b.due("told(2)", b.gate.told(2), 2);
        b.due("output(0)", b.gate.output(0), 2);
        b.due("output(1)", b.gate.output(1), 1);
        b.due("output(2) of the run before", b.gate.output(2), 0);
    }

    private void told() {
        Bench b = bench("promise 20");
        for (int what : new int[] {-1, 5, Integer.MIN_VALUE, Integer.MAX_VALUE}) {
            b.due("told(" + what + ")", b.gate.told(what), BAD);
        }
        told(b, 0, 0, 0, 0, 0);
        b.plain(0);
        b.plain(1);
        b.gate.result(1, -1, false, 0);
        b.gate.builtIn(1, 0);
        b.plain(2);
        b.gate.param(2, -1, false, 0);
        b.gate.builtIn(2, 1);
        b.plain(3);
        b.more(3, "new 0; built; fail");
        b.code(0, "call 1; call 2; call 1; call 2; call 1; call 2; call 3; give; give");
        b.gate.guard(0, 6, 6, 8);
        b.gate.input(4);
        b.load(0);
        told(b, 0, 0, 0, 0, 0);
        b.run(0, 0, 0, DONE, 0);
        told(b, 11, 1, 3, 3, 2);
        b.run(3, 0, 0, THROWN, 0);
        told(b, 3, 1, 0, 0, 1);
    }
}
