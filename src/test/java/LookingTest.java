/** Promises 11 to 15: what is looked for, and what is known in front of each instruction. */
public final class LookingTest {
    private static final int BAD = QualifierGate.BAD, NOT_READY = QualifierGate.NOT_READY;
    private static final int WAY = QualifierGate.WAY, CLASH = QualifierGate.CLASH, STACK = QualifierGate.STACK,
        KIND = QualifierGate.KIND, RAW = QualifierGate.RAW, NULL = QualifierGate.NULL, MARKS = QualifierGate.MARKS,
        EMPTY = QualifierGate.EMPTY, OUTSIDE = QualifierGate.OUTSIDE, VARIANCE = QualifierGate.VARIANCE;
    private final Report report = new Report();

    public static void main(String[] args) {
        new LookingTest().all();
    }

    private void all() {
        wrongNumbers();
        ways();
        clashes();
        stacks();
        kinds();
        kindsOfClasses();
        raw();
        nulls();
        marks();
        orderOfErrors();
        emptyAndOutside();
        variance();
        load();
        place();
        framesOfSimpleCode();
        framesOfLocals();
        framesOfObjects();
        framesOfBuilding();
        framesOfCalls();
        framesOfNullTests();
        framesJoined();
        framesThatNeedManyRounds();
        framesOfSites();
        framesOfGuards();
        framesAskedWrongly();
        framesAreThoseOfTheLastLook();
        report.end();
    }

    private Bench bench(String title) {
        return new Bench(report, title);
    }

    /** A static method 0 with (INT marks 0, REF 0 may be null marks 3, REF 1 not null marks 0), without a result. */
    private Bench withParams(String title) {
        Bench b = bench(title).classes(0, 0);
        b.plain(0);
        b.gate.param(0, -1, true, 0);
        b.gate.param(0, 0, true, 3);
        b.gate.param(0, 1, false, 0);
        return b;
    }

    private void wrongNumbers() {
        Bench b = bench("promise 11");
        for (int m : new int[] {-1, 0, 10, Integer.MIN_VALUE, Integer.MAX_VALUE}) {
            b.due("check(" + m + ")", b.gate.check(m), BAD);
        }
        b.due("place() after BAD", b.gate.place(), -1);
    }

    private void ways() {
        Bench b = bench("WAY");
        b.plain(0);
        b.error(0, "number 1", WAY, 0);
        b.error(0, "number 1; pop", WAY, 1);
        b.error(0, "go 1", WAY, 0);
        b.error(0, "go 19", WAY, 0);
        b.fine(0, "go 0");
        b.error(0, "number 0; zero 3; give", WAY, 1);
        b.error(0, "number 0; zero 2", WAY, 1);
        b.error(0, "null; isnull 3; give", WAY, 1);
        b.fine(0, "give; add");
        b.error(0, "give; go 19", 0, 0);
        b.code(0, "null; cast 0; give");
        b.gate.guard(0, 0, 0, 3);
        b.due("a GUARD that guards nothing", b.gate.check(0), 0);
        b.gate.guard(0, 1, 1, 3);
        b.due("a GUARD that leads away", b.gate.check(0), WAY);
        b.due("place", b.gate.place(), 1);
        b.code(0, "new 0; built; fail");
        b.gate.guard(0, 2, 2, 3);
        b.due("FAIL guarded to what is not there", b.gate.check(0), WAY);
        b.code(0, "number 1; pop; give");
        b.gate.guard(0, 0, 19, 19);
        b.due("what can't throw has no WAY to the GUARD", b.gate.check(0), 0);
    }

    private void clashes() {
        Bench b = bench("CLASH");
        b.plain(0);
        b.error(0, "number 0; zero 3; number 1; give", CLASH, 3);
        b.error(0, "number 1; go 0", CLASH, 0);
        b.error(0, "number 0; number 0; zero 4; pop; pop; give", CLASH, 4);
        b.error(0, "add; go 0", CLASH, 0);
        b.due("frame of it", b.gate.frame(0, -1, 0), -2);
        b.due("next to it", b.gate.frame(1, -1, 0), -2);
        b.error(0, "pop; give", STACK, 0);
        b.due("behind STACK comes CLASH", b.gate.frame(1, -1, 0), -2);
        b.code(0, "cast 0; give; give");
        b.gate.guard(0, 0, 0, 2);
        b.due("STACK of a guarded one", b.gate.check(0), STACK);
        b.due("CLASH comes to the GUARD, too", b.gate.frame(2, -1, 0), -2);
        b.code(0, "number 0; zero 4; number 1; pop; null; cast 0; give; give");
        b.gate.guard(0, 0, 19, 7);
        b.due("GUARD with height 1", b.gate.check(0), 0);
        b.whole(7, 1, -1, 0);
    }

    private void stacks() {
        Bench b = bench("STACK").classes(0);
        b.gate.field(0, -1, false, 0);
        b.plain(0);
        b.plain(1);
        b.gate.param(1, -1, false, 0);
        b.gate.param(1, -1, false, 0);
        b.gate.param(1, -1, false, 0);
        b.gate.result(1, -1, false, 0);
        b.gate.method(0, 2, false);
        for (String one : new String[] {"store 0", "dup", "pop", "built", "get 0", "cast 0", "zero 1", "isnull 1", "fail", "call 2"}) {
            b.error(0, one + "; give", STACK, 0);
        }
        b.error(0, "number 1; add; give", STACK, 1);
        b.error(0, "number 1; put 0; give", STACK, 1);
        b.error(0, "number 1; number 1; call 1; give", STACK, 2);
        String four = "number 1; number 1; number 1; number 1; ";
        b.fine(0, four + "call 1; pop; pop; give");
        for (String one : new String[] {"number 1", "null", "load 0", "dup", "new 0"}) {
            b.error(0, four + one + "; give", STACK, 4);
        }
        b.fine(0, four + "add; pop; pop; pop; give");
        b.gate.result(0, -1, false, 0);
        b.error(0, "give", STACK, 0);
        b.fine(0, four + "give");
        b.plain(3);
        b.gate.result(3, -1, false, 0);
        b.error(0, four + "call 3; give", STACK, 4);
        b.gate.result(3, -2, false, 0);
        b.fine(0, four + "call 3; give");
    }

    private void kinds() {
        Bench b = withParams("KIND");
        b.gate.field(0, -1, true, 15);
        b.gate.field(0, 0, true, 15);
        b.plain(1);
        b.gate.param(1, -1, true, 15);
        b.plain(2);
        b.gate.param(2, 0, true, 15);
        for (String value : new String[] {"null", "load 1", "load 5", "new 0"}) {
            b.error(0, value + "; number 1; add; pop; give", KIND, 2);
            b.error(0, "number 1; " + value + "; add; pop; give", KIND, 2);
            b.error(0, value + "; zero 2; give", KIND, 1);
            b.error(0, "load 2; " + value + "; put 0; give", KIND, 2);
            b.error(0, value + "; call 1; give", KIND, 1);
        }
        for (String value : new String[] {"number 1", "load 0", "load 5"}) {
            b.error(0, value + "; get 0; pop; give", KIND, 1);
            b.error(0, value + "; number 1; put 0; give", KIND, 2);
            b.error(0, "load 2; " + value + "; put 1; give", KIND, 2);
            b.error(0, value + "; call 2; give", KIND, 1);
            b.error(0, value + "; cast 0; pop; give", KIND, 1);
            b.error(0, value + "; isnull 2; give", KIND, 1);
            b.error(0, value + "; fail", KIND, 1);
            b.error(0, value + "; built; give", KIND, 1);
        }
        b.error(0, "null; built; give", KIND, 1);
        b.error(0, "load 2; built; give", KIND, 1);
        b.gate.result(0, -1, true, 15);
        b.error(0, "null; give", KIND, 1);
        b.fine(0, "load 0; give");
        b.gate.result(0, 0, true, 15);
        b.error(0, "load 0; give", KIND, 1);
        b.fine(0, "null; give");
        b.fine(0, "load 2; give");
    }

    private void kindsOfClasses() {
        Bench b = withParams("KIND of classes");
        b.gate.field(1, -1, true, 15);
        b.gate.field(2, -1, true, 15);
        b.gate.field(0, 1, true, 15);
        b.gate.method(1, 1, false);
        b.gate.method(2, 1, false);
        b.plain(2);
        b.gate.param(3, 1, true, 15);
        b.fine(0, "load 2; get 0; pop; give");
        b.error(0, "load 2; get 1; pop; give", KIND, 1);
        b.error(0, "load 2; number 1; put 1; give", KIND, 2);
        b.error(0, "new 0; number 1; put 0; give", KIND, 2);
        b.due("SET all the same", b.gate.frame(3, -1, Bench.SET), 1);
        b.fine(0, "load 2; load 2; put 2; give");
        b.error(0, "load 2; load 1; put 2; give", KIND, 2);
        b.error(0, "load 2; new 2; put 2; give", KIND, 2);
        b.fine(0, "load 2; call 1; give");
        b.error(0, "load 2; call 2; give", KIND, 1);
        b.fine(0, "load 2; call 3; give");
        b.error(0, "load 1; call 3; give", KIND, 1);
        b.fine(0, "load 1; cast 1; call 3; give");
        b.gate.result(0, 1, true, 15);
        b.fine(0, "load 2; give");
        b.error(0, "load 1; give", KIND, 1);
    }

    private void raw() {
        Bench b = withParams("RAW");
        b.gate.field(0, 0, true, 15);
        b.gate.field(1, 0, false, 15);
        b.gate.field(1, -1, false, 15);
        b.gate.field(2, 0, false, 15);
        b.plain(1);
        b.gate.param(1, 0, true, 15);
        b.gate.method(0, 2, false);
        b.error(0, "new 0; cast 0; pop; give", RAW, 1);
        b.error(0, "new 0; isnull 2; give", RAW, 1);
        b.error(0, "new 0; fail", RAW, 1);
        b.error(0, "new 0; call 1; give", RAW, 1);
        b.error(0, "new 0; call 2; give", RAW, 1);
        b.error(0, "load 2; new 0; put 0; give", RAW, 2);
        b.error(0, "new 0; dup; put 0; give", RAW, 2);
        b.fine(0, "new 0; get 0; pop; give");
        b.fine(0, "new 0; load 2; put 0; give");
        b.fine(0, "new 0; built; give");
        b.error(0, "new 1; built; give", RAW, 1);
        b.fine(0, "new 1; dup; load 2; put 1; built; give");
        b.error(0, "new 1; dup; load 2; put 0; built; give", RAW, 4);
        b.error(0, "new 2; built; give", RAW, 1);
        b.fine(0, "new 2; dup; load 2; put 3; built; give");
        b.gate.result(0, 0, true, 15);
        b.error(0, "new 0; give", RAW, 1);
        b.fine(0, "new 0; built; give");
    }

    private void nulls() {
        Bench b = withParams("NULL");
        b.gate.field(0, 0, false, 15);
        b.gate.field(0, 0, true, 15);
        b.gate.field(0, -1, true, 15);
        b.plain(1);
        b.gate.param(1, 0, false, 15);
        b.gate.method(0, 2, false);
        for (String value : new String[] {"null", "load 1"}) {
            b.error(0, value + "; get 1; pop; give", NULL, 1);
            b.error(0, value + "; number 1; put 2; give", NULL, 2);
            b.error(0, value + "; call 2; give", NULL, 1);
            b.error(0, value + "; fail", NULL, 1);
            b.error(0, value + "; call 1; give", NULL, 1);
            b.error(0, "load 2; " + value + "; put 0; give", NULL, 2);
            b.fine(0, "load 2; " + value + "; put 1; give");
            b.fine(0, value + "; cast 0; pop; give");
            b.fine(0, value + "; isnull 2; give");
        }
        b.error(0, "load 2; get 1; call 1; give", NULL, 2);
        b.fine(0, "load 2; get 0; call 1; give");
        b.error(0, "new 0; get 0; call 1; give", NULL, 2);
        b.fine(0, "new 0; dup; load 2; put 0; get 0; call 1; give");
        b.fine(0, "load 1; isnull 4; load 1; call 1; give");
        b.error(0, "load 1; isnull 3; give; load 1; call 1; give", NULL, 4);
        b.gate.result(0, 0, false, 15);
        b.error(0, "null; give", NULL, 1);
        b.fine(0, "load 2; give");
        b.gate.result(0, -2, false, 0);
        b.gate.param(1, -1, true, 0);
        b.fine(0, "load 2; load 0; call 1; give");
        Bench c = bench("NULL of INTS");
        c.plain(0);
        c.gate.param(0, -1, true, 0);
        c.gate.result(0, -1, false, 0);
        c.fine(0, "load 0; give");
        c.value(0, 0, Bench.INT, -1, false, 0, -1);
    }

    private void marks() {
        Bench b = bench("MARKS");
        b.plain(0);
        b.gate.param(0, -1, false, 6);
        b.gate.param(0, 0, false, 9);
        b.gate.field(0, -1, false, 2);
        b.gate.field(0, 0, true, 8);
        b.gate.field(0, -1, false, 14);
        b.gate.field(0, 0, true, 13);
        b.plain(1);
        b.gate.param(1, -1, false, 4);
        b.plain(2);
        b.gate.param(2, 0, false, 9);
        b.gate.method(0, 3, false);
        b.error(0, "load 1; load 0; put 0; give", MARKS, 2);
        b.fine(0, "load 1; load 0; put 2; give");
        b.error(0, "load 1; load 1; put 1; give", MARKS, 2);
        b.fine(0, "load 1; load 1; put 3; give");
        b.error(0, "load 0; call 1; give", MARKS, 1);
        b.fine(0, "load 1; call 2; give");
        b.error(0, "load 1; call 3; give", MARKS, 1);
        b.error(0, "load 1; fail", MARKS, 1);
        b.fine(0, "load 1; get 0; pop; give");
        b.fine(0, "load 1; number 1; put 0; give");
        b.fine(0, "load 1; isnull 2; give");
        b.error(0, "load 1; cast 0; fail", MARKS, 2);
        b.error(0, "number 1; load 0; add; call 1; give", MARKS, 3);
        b.gate.result(0, -1, false, 4);
        b.error(0, "load 0; give", MARKS, 1);
        b.fine(0, "number 1; give");
        b.gate.result(0, 0, false, 1);
        b.error(0, "load 1; give", MARKS, 1);
        b.gate.result(0, 0, false, 11);
        b.fine(0, "load 1; give");
        for (int mark = 0; mark < 4; mark++) {
            Bench c = bench("mark " + mark);
            c.plain(0);
            c.gate.param(0, 0, false, 1 << mark);
            c.gate.method(0, 1, false);
            c.plain(2);
            c.gate.param(2, 0, false, 15 - (1 << mark));
            c.error(0, "load 0; fail", MARKS, 1);
            c.error(0, "load 0; call 1; give", MARKS, 1);
            c.error(0, "load 0; call 2; give", MARKS, 1);
        }
    }

    private void orderOfErrors() {
        Bench b = bench("the first ERROR counts").classes(0);
        b.plain(0);
        b.gate.param(0, 0, true, 1);
        b.gate.method(1, 1, false);
        b.gate.param(1, -1, false, 0);
        b.gate.param(1, 0, false, 0);
        b.error(0, "number 1; go 0; give", CLASH, 0);
        b.error(0, "number 1; number 1; zero 0; go 19", CLASH, 0);
        b.error(0, "number 0; zero 3; number 1; number 2", WAY, 3);
        b.error(0, "number 1; number 1; number 1; number 1; number 1", WAY, 4);
        b.error(0, "add", WAY, 0);
        b.error(0, "null; null; load 0; call 1; give", KIND, 3);
        b.error(0, "null; number 1; load 0; call 1; give", NULL, 3);
        b.error(0, "null; number 1; new 0; call 1; give", RAW, 3);
        b.error(0, "load 0; number 1; new 0; call 1; give", KIND, 3);
        b.error(0, "load 0; number 1; null; call 1; give", KIND, 3);
        b.error(0, "load 0; cast 1; number 1; null; call 1; give", NULL, 4);
        b.error(0, "load 0; isnull 8; load 0; cast 1; number 1; new 0; built; call 1; give", MARKS, 7);
        b.error(0, "load 0; isnull 8; load 0; cast 1; number 1; null; go 7; call 1; give", NULL, 7);
        b.error(0, "number 0; zero 4; null; fail; number 1; null; add; give", NULL, 3);
    }

    private void emptyAndOutside() {
        Bench b = bench("EMPTY and OUTSIDE").classes(0, 1);
        b.plain(0);
        b.due("EMPTY", b.gate.check(0), EMPTY);
        b.due("place", b.gate.place(), 31);
        b.due("frame", b.gate.frame(0, -1, 0), -1);
        b.gate.builtIn(0, 0);
        outside(b, 0, OUTSIDE, "READS without RESULT");
        b.gate.result(0, 0, true, 0);
        outside(b, 0, OUTSIDE, "READS of references");
        b.gate.result(0, -1, true, 0);
        outside(b, 0, 0, "READS");
        b.gate.builtIn(0, 1);
        outside(b, 0, OUTSIDE, "WRITES without PARAMETER, with RESULT");
        b.gate.result(0, -2, true, 0);
        outside(b, 0, OUTSIDE, "WRITES without PARAMETER");
        b.gate.param(0, -1, false, 1);
        outside(b, 0, 0, "WRITES");
        b.gate.param(0, 0, false, 1);
        outside(b, 0, 0, "WRITES with a further one");
        b.gate.builtIn(0, 2);
        outside(b, 0, OUTSIDE, "SAME without RESULT");
        b.gate.result(0, 0, true, 0);
        outside(b, 0, OUTSIDE, "SAME of INTS to references");
        b.gate.result(0, -1, true, 0);
        outside(b, 0, 0, "SAME of INTS, whatever the MARKS");
        b.plain(1);
        b.gate.builtIn(1, 1);
        b.gate.param(1, 1, true, 15);
        outside(b, 1, OUTSIDE, "WRITES of references");
        b.gate.builtIn(1, 2);
        outside(b, 1, OUTSIDE, "SAME of references without RESULT");
        b.gate.result(1, -1, true, 0);
        outside(b, 1, OUTSIDE, "SAME of references to INTS");
        b.gate.result(1, 2, true, 0);
        outside(b, 1, OUTSIDE, "SAME to a lower CLASS");
        b.gate.result(1, 0, false, 0);
        outside(b, 1, OUTSIDE, "SAME of what may be null to what may not");
        b.gate.result(1, 1, true, 0);
        outside(b, 1, 0, "SAME to the same CLASS");
        b.gate.result(1, 0, true, 0);
        outside(b, 1, 0, "SAME to a higher CLASS");
        b.plain(2);
        b.gate.builtIn(2, 2);
        b.gate.result(2, -1, false, 0);
        outside(b, 2, OUTSIDE, "SAME without PARAMETER");
        b.gate.param(2, 0, true, 0);
        b.gate.result(2, 0, false, 0);
        outside(b, 2, OUTSIDE, "SAME of what may be null to what may not, of one CLASS");
    }

    private static void outside(Bench b, int m, int error, String what) {
        b.due(what, b.gate.check(m), error);
        b.due("place of " + what, b.gate.place(), error == 0 ? -1 : 32 * m + 31);
    }

    /** Loads class 2 of 0 <- 1 <- 2 with methods of one name in 0 and 2: the answer. */
    private void pairOfMethods(String what, int[] upper, int[] lower, int error) {
        Bench b = bench("VARIANCE: " + what).classes(0, 1);
        declare(b, 0, upper);
        declare(b, 2, lower);
        b.load(0, 1);
        int got = b.gate.load(2);
        b.due("load(2)", got, error);
        b.due("place()", b.gate.place(), error == 0 ? -1 : 63);
        b.due("isLoaded(2)", b.gate.isLoaded(2), error == 0);
    }

    // {static, parameter's sort, may, marks, result's sort, may, marks}, a parameter's sort -2 for none
    private static void declare(Bench b, int c, int[] said) {
        int m = b.gate.method(c, 3, said[0] == 1);
        if (said[1] != -2) {
            b.gate.param(m, said[1], said[2] == 1, said[3]);
        }
        b.gate.result(m, said[4], said[5] == 1, said[6]);
        if (said[4] == -2) {
            b.more(m, "give");
        } else if (said[4] == -1) {
            b.more(m, "number 1; give");
        } else {
            b.more(m, "go 0");
        }
    }

    private void variance() {
        int[] plain = {0, -2, 0, 0, -2, 0, 0};
        pairOfMethods("nothing at all", plain, plain, 0);
        pairOfMethods("marks of no RESULT", plain, new int[] {0, -2, 0, 0, -2, 1, 15}, 0);
        pairOfMethods("the upper STATIC", new int[] {1, -2, 0, 0, -2, 0, 0}, plain, VARIANCE);
        pairOfMethods("the lower STATIC", plain, new int[] {1, -2, 0, 0, -2, 0, 0}, VARIANCE);
        pairOfMethods("both STATIC", new int[] {1, -2, 0, 0, -2, 0, 0}, new int[] {1, -2, 0, 0, -2, 0, 0}, VARIANCE);
        int[] ints = {0, -1, 0, 5, -1, 0, 5};
        pairOfMethods("a PARAMETER more", new int[] {0, -2, 0, 0, -1, 0, 5}, ints, VARIANCE);
        pairOfMethods("a PARAMETER fewer", ints, new int[] {0, -2, 0, 0, -1, 0, 5}, VARIANCE);
        pairOfMethods("INTS", ints, ints, 0);
        pairOfMethods("null of INTS", new int[] {0, -1, 1, 5, -1, 0, 5}, new int[] {0, -1, 0, 5, -1, 1, 5}, 0);
        pairOfMethods("more MARKS in", ints, new int[] {0, -1, 0, 7, -1, 0, 5}, 0);
        pairOfMethods("fewer MARKS in", ints, new int[] {0, -1, 0, 4, -1, 0, 5}, VARIANCE);
        pairOfMethods("more MARKS out", ints, new int[] {0, -1, 0, 5, -1, 0, 7}, VARIANCE);
        pairOfMethods("fewer MARKS out", ints, new int[] {0, -1, 0, 5, -1, 0, 1}, 0);
        pairOfMethods("RESULT for none", plain, new int[] {0, -2, 0, 0, -1, 0, 0}, VARIANCE);
        pairOfMethods("none for RESULT", new int[] {0, -2, 0, 0, -1, 0, 0}, plain, VARIANCE);
        pairOfMethods("none for a reference", new int[] {0, -2, 0, 0, 0, 1, 0}, plain, VARIANCE);
        pairOfMethods("INTS for a reference", new int[] {0, -2, 0, 0, 0, 1, 0}, new int[] {0, -2, 0, 0, -1, 1, 0}, VARIANCE);
        int[] refs = {0, 1, 0, 0, 1, 0, 0};
        pairOfMethods("references", refs, refs, 0);
        pairOfMethods("INTS for a reference in", refs, new int[] {0, -1, 0, 0, 1, 0, 0}, VARIANCE);
        pairOfMethods("a reference for INTS in", ints, new int[] {0, 0, 0, 5, -1, 0, 5}, VARIANCE);
        pairOfMethods("a higher CLASS in", refs, new int[] {0, 0, 0, 0, 1, 0, 0}, 0);
        pairOfMethods("a lower CLASS in", refs, new int[] {0, 2, 0, 0, 1, 0, 0}, VARIANCE);
        pairOfMethods("a higher CLASS out", refs, new int[] {0, 1, 0, 0, 0, 0, 0}, VARIANCE);
        pairOfMethods("a lower CLASS out", refs, new int[] {0, 1, 0, 0, 2, 0, 0}, 0);
        pairOfMethods("null in, the lower not", new int[] {0, 1, 1, 0, 1, 0, 0}, refs, VARIANCE);
        pairOfMethods("null in, the lower only", refs, new int[] {0, 1, 1, 0, 1, 0, 0}, 0);
        pairOfMethods("null out, the lower only", refs, new int[] {0, 1, 0, 0, 1, 1, 0}, VARIANCE);
        pairOfMethods("null out, the upper only", new int[] {0, 1, 0, 0, 1, 1, 0}, refs, 0);
        int[] roots = {0, 0, 0, 0, 0, 0, 0};
        pairOfMethods("CLASS 0", roots, roots, 0);
        pairOfMethods("null of CLASS 0 in", new int[] {0, 0, 1, 0, 0, 0, 0}, roots, VARIANCE);
        pairOfMethods("null of CLASS 0 out", roots, new int[] {0, 0, 0, 0, 0, 1, 0}, VARIANCE);
        nearestCounts();
    }

    private void nearestCounts() {
        Bench b = bench("VARIANCE with the nearest one").classes(0, 1, 0);
        declare(b, 0, new int[] {0, -1, 0, 3, -2, 0, 0});
        declare(b, 1, new int[] {0, -1, 0, 7, -2, 0, 0});
        declare(b, 2, new int[] {0, -1, 0, 3, -2, 0, 0});
        declare(b, 3, new int[] {0, -1, 0, 3, -2, 0, 0});
        b.load(0, 1, 3);
        b.due("load(2)", b.gate.load(2), VARIANCE);
        b.due("place()", b.gate.place(), 32 * 2 + 31);
        b.due("check does not look for it", b.gate.check(2), 0);
    }

    private void load() {
        Bench b = bench("promise 12").classes(0, 1);
        for (int c : new int[] {-1, 3, Integer.MIN_VALUE, Integer.MAX_VALUE}) {
            b.due("load(" + c + ")", b.gate.load(c), BAD);
            b.due("isLoaded(" + c + ")", b.gate.isLoaded(c), false);
        }
        b.plain(0);
        b.code(0, "give");
        b.gate.method(1, 0, true);
        b.gate.method(1, 1, true);
        b.code(2, "add");
        b.gate.method(0, 1, true);
        b.code(3, "pop; give");
        b.due("load(1)", b.gate.load(1), NOT_READY);
        b.due("load(2)", b.gate.load(2), NOT_READY);
        b.due("load(0)", b.gate.load(0), STACK);
        b.due("place()", b.gate.place(), 32 * 3);
        b.due("isLoaded(0)", b.gate.isLoaded(0), false);
        b.code(3, "give");
        b.load(0);
        b.due("isLoaded(0)", b.gate.isLoaded(0), true);
        b.due("place()", b.gate.place(), -1);
        b.due("load(0) again", b.gate.load(0), BAD);
        b.due("VARIANCE before EMPTY", b.gate.load(1), VARIANCE);
        b.due("place()", b.gate.place(), 32 + 31);
        b.due("isLoaded(1)", b.gate.isLoaded(1), false);
        b.due("load(2) still", b.gate.load(2), NOT_READY);
        Bench c = bench("promise 12, a chain").classes(0, 1, 0);
        c.load(0);
        c.due("load(2)", c.gate.load(2), NOT_READY);
        c.load(3, 1, 2);
        c.due("isLoaded(3)", c.gate.isLoaded(3), true);
        c.due("isLoaded(4)", c.gate.isLoaded(4), false);
    }

    private void place() {
        Bench b = bench("promise 14").classes(0);
        b.plain(0);
        b.plain(1);
        b.error(1, "number 1; pop; pop; give", STACK, 2);
        b.due("check(9)", b.gate.check(9), BAD);
        b.due("place() stays", b.gate.place(), 34);
        b.due("load(1)", b.gate.load(1), NOT_READY);
        b.due("place() stays", b.gate.place(), 34);
        b.due("load(7)", b.gate.load(7), BAD);
        b.due("place() stays", b.gate.place(), 34);
        b.due("wipe", b.gate.wipe(1), 4);
        b.due("place() stays", b.gate.place(), 34);
        b.due("EMPTY", b.gate.check(1), EMPTY);
        b.due("place()", b.gate.place(), 63);
        b.fine(0, "give");
    }

    private void framesOfSimpleCode() {
        Bench b = bench("frames of simple code");
        b.plain(0);
        b.gate.param(0, -1, false, 5);
        b.gate.param(0, -1, false, 8);
        b.fine(0, "number 7; null; load 1; load 0; add; dup; pop; pop; pop; pop; give");
        b.whole(0, 0, -1, 0);
        b.whole(4, 4, -1, 0);
        b.value(4, Bench.STACK, Bench.INT, -1, false, 0, -1);
        b.value(4, Bench.STACK + 1, Bench.NULL, -1, true, 0, -1);
        b.value(4, Bench.STACK + 2, Bench.INT, -1, false, 8, 1);
        b.value(4, Bench.STACK + 3, Bench.INT, -1, false, 5, 0);
        b.value(5, Bench.STACK + 2, Bench.INT, -1, false, 13, -1);
        b.value(6, Bench.STACK + 3, Bench.INT, -1, false, 13, -1);
        b.whole(10, 0, -1, 0);
    }

    private void framesOfLocals() {
        Bench b = bench("frames of locals").classes(0);
        int m = b.gate.method(1, 0, false);
        b.gate.param(m, 1, true, 4);
        b.fine(m, "load 1; dup; load 0; store 1; store 5; load 5; store 0; give; give");
        b.value(0, 0, Bench.REF, 1, false, 0, -1);
        b.value(0, 1, Bench.REF, 1, true, 4, -1);
        b.value(0, 2, Bench.ANY, -1, false, 0, -1);
        b.value(2, Bench.STACK, Bench.REF, 1, true, 4, 1);
        b.value(2, Bench.STACK + 1, Bench.REF, 1, true, 4, 1);
        b.value(4, 1, Bench.REF, 1, false, 0, -1);
        b.value(4, Bench.STACK, Bench.REF, 1, true, 4, -1);
        b.value(5, 5, Bench.REF, 1, true, 4, -1);
        b.value(6, Bench.STACK + 1, Bench.REF, 1, true, 4, 5);
        b.due("not REACHED", b.gate.frame(8, -1, 0), -1);
        b.due("not there", b.gate.frame(9, -1, 0), -1);
    }

    private void framesOfObjects() {
        Bench b = bench("frames of GET and CAST").classes(0);
        b.plain(0);
        b.gate.param(0, 1, false, 2);
        b.gate.param(0, 0, true, 6);
        b.gate.field(0, -1, true, 3);
        b.gate.field(0, 1, true, 9);
        b.gate.field(1, 0, false, 1);
        b.fine(0, "load 0; get 0; load 0; get 1; load 0; get 2; load 1; cast 1; give");
        b.value(8, Bench.STACK, Bench.INT, -1, false, 3, -1);
        b.value(8, Bench.STACK + 1, Bench.REF, 1, true, 9, -1);
        b.value(8, Bench.STACK + 2, Bench.REF, 0, false, 1, -1);
        b.value(8, Bench.STACK + 3, Bench.REF, 1, true, 6, -1);
        b.error(0, "load 0; cast 0; load 5; get 2; number 1; get 2; null; get 2; give", KIND, 3);
        b.value(2, Bench.STACK, Bench.REF, 0, false, 2, -1);
        b.value(4, Bench.STACK + 1, Bench.REF, 0, true, 1, -1);
        b.value(6, Bench.STACK + 2, Bench.REF, 0, true, 1, -1);
        b.value(8, Bench.STACK + 3, Bench.REF, 0, false, 1, -1);
        b.error(0, "load 5; get 0; give", KIND, 1);
        b.value(2, Bench.STACK, Bench.INT, -1, false, 3, -1);
    }

    private void framesOfBuilding() {
        Bench b = bench("frames of building").classes(0);
        b.plain(0);
        b.gate.field(0, 0, false, 0);
        b.gate.field(0, -1, false, 0);
        b.code(0, "new 0; dup; store 1; dup; get 0; load 1; number 4; put 1; pop; built; give");
        b.due("check", b.gate.check(0), RAW);
        b.whole(1, 1, 0, 0);
        b.value(1, Bench.STACK, Bench.RAW, 0, false, 0, -1);
        b.value(3, 1, Bench.RAW, 0, false, 0, -1);
        b.value(5, Bench.STACK + 1, Bench.REF, 0, true, 0, -1);
        b.whole(8, 2, 0, 2);
        b.value(10, Bench.STACK, Bench.REF, 0, false, 0, -1);
        b.value(10, 1, Bench.REF, 0, false, 0, -1);
        b.whole(10, 1, -1, 0);
        b.error(0, "new 0; store 0; load 0; new 1; load 0; built; give", KIND, 5);
        b.value(4, 0, Bench.ANY, -1, false, 0, -1);
        b.value(4, Bench.STACK, Bench.ANY, -1, false, 0, 0);
        b.value(4, Bench.STACK + 1, Bench.RAW, 1, false, 0, -1);
        b.whole(4, 2, 3, 0);
        b.value(6, Bench.STACK + 1, Bench.ANY, -1, false, 0, -1);
        b.whole(6, 3, -1, 0);
        b.error(0, "number 1; store 2; new 0; store 0; load 2; store 3; load 2; built; give", KIND, 7);
        b.value(8, 0, Bench.ANY, -1, false, 0, -1);
        b.value(8, Bench.STACK, Bench.INT, -1, false, 0, 2);
    }

    private void framesOfCalls() {
        Bench b = bench("frames of CALL").classes(0);
        b.plain(0);
        b.plain(1);
        b.gate.result(1, 1, true, 6);
        b.plain(2);
        b.gate.param(2, 1, true, 15);
        b.gate.result(2, -1, true, 9);
        int m = b.gate.method(1, 3, false);
        b.gate.param(m, -1, false, 15);
        b.gate.param(m, 0, true, 0);
        b.gate.result(m, 1, false, 0);
        b.fine(0, "call 1; dup; call 2; pop; new 1; built; number 1; null; call 3; give");
        b.value(1, Bench.STACK, Bench.REF, 1, true, 6, -1);
        b.value(3, Bench.STACK + 1, Bench.INT, -1, false, 9, -1);
        b.whole(8, 4, -1, 0);
        b.whole(9, 2, -1, 0);
        b.value(9, Bench.STACK + 1, Bench.REF, 1, false, 0, -1);
    }

    private void framesOfNullTests() {
        Bench b = bench("frames of ISNULL").classes(0);
        b.plain(0);
        b.gate.param(0, 1, true, 7);
        b.gate.param(0, -1, false, 0);
        b.fine(0, "load 0; dup; isnull 5; pop; give; pop; give");
        b.value(3, 0, Bench.REF, 1, false, 7, -1);
        b.value(3, Bench.STACK, Bench.REF, 1, true, 7, 0);
        b.value(5, 0, Bench.NULL, -1, true, 7, -1);
        b.value(5, Bench.STACK, Bench.REF, 1, true, 7, 0);
        b.fine(0, "load 0; dup; store 2; isnull 6; load 2; give; give");
        b.value(4, 0, Bench.REF, 1, false, 7, -1);
        b.value(4, 2, Bench.REF, 1, true, 7, -1);
        b.fine(0, "load 0; load 0; store 0; isnull 5; give; give");
        b.value(4, 0, Bench.REF, 1, true, 7, -1);
        b.value(5, 0, Bench.REF, 1, true, 7, -1);
        b.fine(0, "null; store 3; load 3; isnull 5; give; give");
        b.value(4, 3, Bench.NULL, -1, false, 0, -1);
        b.value(5, 3, Bench.NULL, -1, true, 0, -1);
        b.error(0, "load 1; isnull 3; give; give", KIND, 1);
        b.value(3, 1, Bench.INT, -1, false, 0, -1);
        b.error(0, "new 1; store 4; load 4; isnull 5; give; give", RAW, 3);
        b.value(5, 4, Bench.RAW, 1, false, 0, -1);
        b.fine(0, "load 0; isnull 2; give");
        b.value(2, 0, Bench.REF, 1, true, 7, -1);
    }

    private void framesJoined() {
        Bench b = bench("frames joined").classes(0, 1, 1);
        b.plain(0);
        b.gate.param(0, -1, false, 1);
        b.gate.param(0, 2, false, 2);
        b.gate.param(0, 3, true, 4);
        b.fine(0, "load 0; zero 5; load 1; load 0; go 7; load 2; load 0; load 0; give");
        b.value(7, Bench.STACK, Bench.REF, 1, true, 6, -1);
        b.value(7, Bench.STACK + 1, Bench.INT, -1, false, 1, 0);
        b.fine(0, "load 0; zero 4; null; go 5; load 1; give");
        b.value(5, Bench.STACK, Bench.REF, 2, true, 2, -1);
        b.fine(0, "load 0; zero 4; load 1; go 5; null; give");
        b.value(5, Bench.STACK, Bench.REF, 2, true, 2, -1);
        b.fine(0, "load 0; zero 4; number 1; go 5; null; give");
        b.value(5, Bench.STACK, Bench.ANY, -1, true, 0, -1);
        b.fine(0, "load 0; zero 4; load 5; go 5; load 1; give");
        b.value(5, Bench.STACK, Bench.ANY, -1, false, 2, -1);
        b.fine(0, "load 0; zero 4; null; go 5; null; give");
        b.value(5, Bench.STACK, Bench.NULL, -1, true, 0, -1);
        // A loop: what comes back raises the frame that the method begins with.
        b.fine(0, "load 2; store 1; number 0; store 4; load 0; zero 0; give");
        b.value(0, 1, Bench.REF, 1, true, 6, -1);
        b.value(0, 4, Bench.ANY, -1, false, 0, -1);
        b.value(4, 4, Bench.INT, -1, false, 0, -1);
    }

    private void framesThatNeedManyRounds() {
        Bench b = bench("frames that need many rounds").classes(0, 1, 2, 3, 3);
        b.plain(0);
        b.gate.param(0, -1, false, 0);
        b.gate.param(0, 4, false, 1);
        b.gate.param(0, 5, true, 2);
        b.fine(0, "go 9; give; go 1; go 2; go 3; go 4; go 5; go 6; go 7; go 8");
        b.whole(1, 0, -1, 0);
        // Each round of the loop carries what the locals hold one further.
        b.fine(0, "load 4; store 5; load 3; store 4; load 1; store 3; load 2; store 1; load 0; zero 0; give");
        b.value(0, 1, Bench.REF, 3, true, 3, -1);
        b.value(0, 3, Bench.ANY, -1, true, 3, -1);
        b.value(0, 4, Bench.ANY, -1, true, 3, -1);
        b.value(0, 5, Bench.ANY, -1, true, 3, -1);
        b.value(10, 3, Bench.REF, 3, true, 3, -1);
        // A loop that is left, with a site and a field that is set, late.
        b.gate.field(0, -1, false, 0);
        b.fine(0, "new 0; go 7; give; load 0; zero 5; go 2; go 2; go 11; dup; number 1; put 0; load 0; zero 8; go 3");
        b.whole(8, 1, 0, 0);
        b.whole(2, 1, 0, 0);
    }

    private void framesOfSites() {
        Bench b = bench("frames of sites").classes(0);
        b.plain(0);
        b.gate.param(0, -1, false, 0);
        b.gate.field(0, -1, false, 0);
        b.gate.field(0, -1, false, 0);
        b.fine(0, "load 0; zero 4; new 0; go 5; new 0; give");
        b.value(5, Bench.STACK, Bench.ANY, -1, false, 0, -1);
        b.whole(5, 1, -1, 0);
        b.fine(0, "new 0; dup; number 1; put 0; load 0; zero 9; dup; number 1; put 1; give");
        b.whole(6, 1, 0, 1);
        b.whole(9, 1, 0, 1);
        b.value(9, Bench.STACK, Bench.RAW, 0, false, 0, -1);
        b.fine(0, "load 0; zero 5; new 0; store 1; go 5; give");
        b.whole(5, 0, -1, 0);
        b.value(5, 1, Bench.ANY, -1, false, 0, -1);
        b.fine(0, "new 0; load 0; zero 4; built; give");
        b.whole(4, 1, -1, 0);
        b.value(4, Bench.STACK, Bench.ANY, -1, false, 0, -1);
        b.fine(0, "new 1; store 1; load 0; zero 0; give");
        b.whole(0, 0, -1, 0);
        b.value(0, 1, Bench.ANY, -1, false, 0, -1);
        b.value(2, 1, Bench.RAW, 1, false, 0, -1);
    }

    private void framesOfGuards() {
        Bench b = bench("frames of GUARDS").classes(0);
        b.plain(0);
        b.gate.param(0, 0, true, 0);
        b.gate.field(1, -1, false, 0);
        b.code(0, "new 1; dup; store 2; number 1; put 0; load 0; cast 1; store 0; give; give");
        b.gate.guard(0, 0, 7, 9);
        b.due("check", b.gate.check(0), 0);
        b.whole(9, 1, 0, 1);
        b.value(9, Bench.STACK, Bench.REF, 0, false, 0, -1);
        b.value(9, 0, Bench.REF, 0, true, 0, -1);
        b.value(9, 2, Bench.RAW, 1, false, 0, -1);
        b.code(0, "number 1; null; cast 0; pop; pop; give; give");
        b.gate.guard(0, 2, 2, 6);
        b.due("check", b.gate.check(0), 0);
        b.whole(6, 1, -1, 0);
        b.code(0, "number 1; null; cast 0; pop; pop; give; give");
        b.gate.guard(0, 3, 19, 6);
        b.due("check", b.gate.check(0), 0);
        b.due("not guarded", b.gate.frame(6, -1, 0), -1);
        b.code(0, "new 0; built; fail; give");
        b.gate.guard(0, 2, 2, 3);
        b.gate.guard(0, 0, 19, 0);
        b.due("check", b.gate.check(0), 0);
        b.whole(3, 1, -1, 0);
        b.whole(0, 0, -1, 0);
    }

    private void framesAskedWrongly() {
        Bench b = bench("promise 15, wrong numbers");
        b.plain(0);
        b.fine(0, "number 1; pop; give; give");
        int[][] wrong = {{1, -2, 0}, {1, 7, 0}, {1, 10, 0}, {1, 6, 5}, {1, 6, -1}, {1, 0, 5}, {1, 0, -1}, {1, -1, 3}, {1, -1, -1},
            {3, 0, 0}, {3, -1, 1}, {3, -1, 2}, {3, -1, 0}, {4, -1, 0}, {20, -1, 0}, {-1, -1, 0}, {4, 0, 0}, {0, 6, 0},
            {Integer.MIN_VALUE, -1, 0}, {Integer.MAX_VALUE, 0, 0}, {1, Integer.MAX_VALUE, 0}, {1, Integer.MIN_VALUE, 0}};
        for (int[] w : wrong) {
            b.due("frame(" + w[0] + ", " + w[1] + ", " + w[2] + ")", b.gate.frame(w[0], w[1], w[2]), -1);
        }
        b.error(0, "number 1; go 0", CLASH, 0);
        b.due("CLASH", b.gate.frame(0, -1, 0), -2);
        for (int[] w : new int[][] {{0, -1, 1}, {0, -1, 2}, {0, 0, 0}, {0, 6, 0}, {0, -2, 0}}) {
            b.due("frame(" + w[0] + ", " + w[1] + ", " + w[2] + ") of CLASH", b.gate.frame(w[0], w[1], w[2]), BAD);
        }
    }

    private void framesAreThoseOfTheLastLook() {
        Bench b = bench("promise 15, the last look").classes(0);
        b.plain(0);
        b.gate.method(1, 0, true);
        b.fine(0, "new 1; give");
        b.code(0, "number 1; number 1; number 1; give");
        b.whole(1, 1, 0, 0);
        b.value(1, Bench.STACK, Bench.RAW, 1, false, 0, -1);
        b.due("not there then", b.gate.frame(2, -1, 0), -1);
        b.due("BAD check", b.gate.check(5), BAD);
        b.whole(1, 1, 0, 0);
        b.load(0);
        b.whole(2, 2, -1, 0);
        b.due("VARIANCE is not looked through", b.gate.load(1), VARIANCE);
        b.whole(2, 2, -1, 0);
        b.due("EMPTY is", b.gate.check(1), EMPTY);
        b.due("nothing REACHED", b.gate.frame(0, -1, 0), -1);
        Bench c = bench("promise 15, BUILT-IN").classes(0);
        c.plain(0);
        c.plain(1);
        c.code(0, "give");
        c.due("check(0)", c.gate.check(0), 0);
        c.gate.result(1, -1, false, 0);
        c.more(1, "number 1; give");
        c.gate.builtIn(1, 0);
        c.due("load(0)", c.gate.load(0), 0);
        c.due("BUILT-IN reaches none", c.gate.frame(0, -1, 0), -1);
        c.due("check(0)", c.gate.check(0), 0);
        c.due("a class without METHODS", c.gate.load(1), 0);
        c.due("frames stay", c.gate.frame(0, -1, 0), 0);
    }
}
