/** RUNNING, how it ends, what BUILT-IN methods do, and promises 16 to 20; the sentence is the bench's title. */
public final class EdgesOfRunsTest {
    private static final int BAD = QualifierGate.BAD, FULL = QualifierGate.FULL;
    private static final int DONE = QualifierGate.DONE, THROWN = QualifierGate.THROWN, HEAP = QualifierGate.HEAP,
        DEEP = QualifierGate.DEEP, LONG = QualifierGate.LONG, UNLOADED = QualifierGate.UNLOADED;
    private static final int LOW = Integer.MIN_VALUE, HIGH = Integer.MAX_VALUE;
    // Seven instructions a round, while local 0 counts down to 0; the jump leads behind them.
    private static final String ROUNDS = "load 0; zero 7; load 0; number -1; add; store 0; go 0; ";
    private final Report report = new Report();

    public static void main(String[] args) {
        new EdgesOfRunsTest().all();
    }

    private void all() {
        wrapAround();
        newObjects();
        references();
        nullTests();
        dispatch();
        fullStacks();
        casts();
        guards();
        emptiedStack();
        heap();
        deep();
        tooLong();
        longAtOnce();
        unloaded();
        unloadedFirst();
        nulled();
        reads();
        writes();
        same();
        builtInWithInstructions();
        input();
        refusedRun();
        runArguments();
        value();
        output();
        told();
        manyCalls();
        report.end();
    }

    private Bench bench(String sentence) {
        return new Bench(report, sentence);
    }

    /** A static method of class 0 from INTS, as many as said, to an INT that may have all marks. */
    private static int function(Bench b, int name, int params, String code) {
        int m = b.gate.method(0, name, true);
        for (int p = 0; p < params; p++) {
            b.gate.param(m, -1, false, 0);
        }
        b.gate.result(m, -1, false, 15);
        b.more(m, code);
        return m;
    }

    private Bench functionBench(String sentence, int params, String code) {
        Bench b = bench(sentence);
        function(b, 0, params, code);
        return b;
    }

    /** A built-in method that is as it must be: 0 reads, 1 writes, 2 gives back an INT. */
    private static int builtIn(Bench b, int name, int kind) {
        int m = b.gate.method(0, name, true);
        if (kind != 0) {
            b.gate.param(m, -1, false, 15);
        }
        b.gate.result(m, kind == 1 ? -2 : -1, false, 0);
        b.gate.builtIn(m, kind);
        return m;
    }

    private static void told(Bench b, int begun, int made, int putOut, int taken, int most) {
        int[] due = {begun, made, putOut, taken, most};
        for (int what = 0; what < due.length; what++) {
            b.due("told(" + what + ")", b.gate.told(what), due[what]);
        }
    }

    // ---- running

    private void wrapAround() {
        Bench b = functionBench("INTS (ADD wraps)", 2, "load 0; load 1; add; give");
        b.load(0);
        b.run(0, HIGH, 1, DONE, LOW);
        b.run(0, LOW, -1, DONE, HIGH);
        b.run(0, HIGH, HIGH, DONE, -2);
        b.run(0, LOW, LOW, DONE, 0);
        b.run(0, HIGH, LOW, DONE, -1);
        b.run(0, HIGH, 0, DONE, HIGH);
        for (int a : new int[] {LOW, HIGH, -1, 0}) {
            Bench c = functionBench("NUMBER a: any a", 0, "number " + a + "; give");
            c.load(0);
            c.run(0, 5, 6, DONE, a);
        }
        Bench d = functionBench("ZERO a", 1, "load 0; zero 4; number 1; give; number 2; give");
        d.load(0);
        d.run(0, 0, 0, DONE, 2);
        for (int x : new int[] {1, -1, LOW, HIGH}) {
            d.run(0, x, 0, DONE, 1);
        }
    }

    private void newObjects() {
        Bench b = bench("an object that NEW makes has 0 or null in its FIELDS").classes(0, 1);
        for (int f = 0; f < 12; f++) {
            b.gate.field(f % 3, f < 6 ? -1 : f % 3, true, 0);
        }
        function(b, 0, 0, "new 2; dup; get 0; store 0; dup; get 5; load 0; add; give");
        function(b, 1, 0, "new 2; get 11; isnull 5; number 1; give; number 0; give");
        function(b, 2, 1, "new 2; store 5; load 5; load 0; put 0; load 5; load 0; put 5; load 5; get 0; load 5; get 5; add; give");
        function(b, 3, 0, "new 2; built; dup; put 11; number 7; give");
        b.load(0, 1, 2);
        b.run(0, 0, 0, DONE, 0);
        b.run(1, 0, 0, DONE, 0);
        b.run(2, 21, 0, DONE, 42);
        b.run(3, 0, 0, DONE, 7);
        b.run(0, 0, 0, DONE, 0);
        b.run(1, 0, 0, DONE, 0);
        Bench c = bench("objects keep apart what they hold, FIELDS 0 and 11, the first and the second object");
        for (int f = 0; f < 12; f++) {
            c.gate.field(0, -1, true, 0);
        }
        function(c, 0, 2, "new 0; built; store 3; new 0; built; store 4; load 3; load 0; put 11; load 4; load 1; put 0; load 3; get 0; load 4; get 11; add; give");
        function(c, 1, 2, "new 0; built; store 3; new 0; built; store 4; load 3; load 0; put 11; load 4; load 1; put 0; load 3; get 11; give");
        function(c, 2, 2, "new 0; built; store 3; new 0; built; store 4; load 3; load 0; put 11; load 4; load 1; put 0; load 4; get 0; give");
        c.load(0);
        c.run(0, 5, 6, DONE, 0);
        c.run(1, 5, 6, DONE, 5);
        c.run(2, 5, 6, DONE, 6);
    }

    private void references() {
        oneObject("by DUP", "dup; store 4; pop; load 4; load 0; put 0");
        oneObject("by a LOCAL", "store 4; load 4; load 0; put 0");
        oneObject("by CAST", "cast 1; load 0; put 0");
        oneObject("by what a METHOD gives", "call 1; load 0; put 0");
        oneObject("by what SAME gives", "call 2; load 0; put 0");
        oneObject("by a PARAMETER", "load 0; call 0");
        oneObject("by a FIELD", "dup; put 1; load 3; get 1; store 4; load 4; isnull 0; load 4; load 0; put 0");
        oneObject("by what is thrown", "fail; load 0; put 0");
        Bench b = bench("PUT a: pops the value, then the object; the value, an object, too, stays as it is");
        b.gate.field(0, 0, true, 0);
        b.gate.field(0, -1, false, 0);
        String two = "new 0; built; dup; load 0; put 1; store 3; new 0; built; dup; load 1; put 1; store 4; load 3; load 4; put 0; ";
        function(b, 0, 2, two + "load 3; get 1; give");
        function(b, 1, 2, two + "load 4; get 1; give");
        b.load(0);
        b.run(0, 5, 6, DONE, 5);
        b.run(1, 5, 6, DONE, 6);
    }

    /** An object lies in local 3 and on the stack; what code puts into it is got from local 3; FIELD 0 is of a CLASS above. */
    private void oneObject(String way, String code) {
        Bench b = bench("references to one object, " + way).classes(0, 1);
        b.gate.field(0, -1, false, 0);
        b.gate.field(1, 0, true, 0);
        int puts = b.plain(0);
        b.gate.param(puts, 0, false, 0);
        b.gate.param(puts, -1, false, 0);
        b.more(puts, "load 0; load 1; put 0; give");
        for (int name = 1; name <= 2; name++) {
            int gives = b.plain(name);
            b.gate.param(gives, 0, false, 0);
            b.gate.result(gives, 0, false, 0);
            b.more(gives, "load 0; give");
        }
        b.gate.builtIn(2, 2);
        int m = function(b, 3, 1, "new 2; built; store 3; load 3; " + code + "; load 3; get 0; give");
        b.gate.guard(m, 4, 4, 5);
        b.load(0, 1, 2);
        b.run(m, 37, 0, DONE, 37);
        b.due("one object", b.gate.told(1), 1);
    }

    private void nullTests() {
        Bench b = bench("ISNULL a: null goes to a, an object to the next one");
        function(b, 0, 0, "null; isnull 4; number 1; give; number 2; give");
        function(b, 1, 0, "new 0; built; isnull 5; number 1; give; number 2; give");
        b.load(0);
        b.run(0, 0, 0, DONE, 2);
        b.run(1, 0, 0, DONE, 1);
    }

    private void dispatch() {
        // A chain 0 to 5, of which 0, 2 and 4 have the method.
        Bench b = bench("A CALL is done by the METHOD of its NAME in the CLASS of the object, or the nearest one above that has one")
            .classes(0, 1, 2, 3, 4);
        for (int c = 0; c <= 4; c += 2) {
            int m = b.gate.method(c, 0, false);
            b.gate.result(m, -1, false, 0);
            b.more(m, "number " + (100 + c) + "; give");
        }
        for (int c = 0; c <= 4; c++) {
            function(b, 1 + c, 0, "new " + c + "; built; call 0; give");
        }
        b.load(0, 1, 2, 3, 4, 5);
        for (int c = 0; c <= 4; c++) {
            b.run(3 + c, 0, 0, DONE, 100 + c / 2 * 2);
        }
        Bench far = bench("the nearest one above that has one: five above").classes(0, 1, 2, 3, 4);
        int first = far.gate.method(0, 0, false);
        far.gate.result(first, -1, false, 0);
        far.more(first, "number 8; give");
        int start = function(far, 1, 0, "new 5; built; call 0; give");
        far.load(0, 1, 2, 3, 4, 5);
        far.run(start, 0, 0, DONE, 8);
        Bench d = bench("a CALL of a METHOD that is not STATIC, named in a lower CLASS than the one that does it").classes(0, 1);
        for (int c = 1; c <= 2; c++) {
            int m = d.gate.method(c, 0, false);
            d.gate.result(m, -1, false, 0);
            d.more(m, "number " + c + "; give");
        }
        function(d, 1, 0, "new 2; built; call 0; give");
        function(d, 2, 0, "new 1; built; call 0; give");
        d.load(0, 1, 2);
        d.run(2, 0, 0, DONE, 2);
        d.run(3, 0, 0, DONE, 1);
        Bench e = bench("a CALL of a STATIC METHOD is done by that one").classes(0);
        function(e, 0, 0, "number 1; give");
        function(e, 1, 0, "new 0; built; store 0; call 0; give");
        e.load(0);
        e.run(1, 0, 0, DONE, 1);
        Bench f = bench("LOCALS hold what the METHOD is called with: the object first, then three PARAMETERS");
        int m = f.gate.method(0, 0, false);
        for (int p = 0; p < 3; p++) {
            f.gate.param(m, -1, false, 0);
        }
        f.gate.field(0, -1, false, 0);
        f.gate.result(m, -1, false, 0);
        f.more(m, "load 1; load 1; add; load 2; add; load 3; load 3; add; load 3; add; add; load 0; get 0; add; give");
        function(f, 1, 0, "new 0; built; dup; number 1000; put 0; number 1; number 10; number 100; call 0; give");
        f.load(0);
        f.run(1, 0, 0, DONE, 2 + 10 + 300 + 1000);
    }

    private void fullStacks() {
        Bench b = bench("CALL with a stack of four: the object or the argument on top").classes(0);
        for (int c = 0; c <= 1; c++) {
            int m = b.gate.method(c, 0, false);
            b.gate.result(m, -1, false, 0);
            b.more(m, "number " + (5 + c) + "; give");
        }
        builtIn(b, 1, 1);
        builtIn(b, 2, 2);
        function(b, 3, 0, "number 1; new 0; built; dup; new 1; built; call 0; give");
        function(b, 4, 0, "number 1; number 2; number 3; number 4; call 2; give");
        function(b, 5, 0, "number 1; number 2; number 3; number 4; call 3; add; add; add; give");
        b.load(0, 1);
        b.run(4, 0, 0, DONE, 6);
        b.run(5, 0, 0, DONE, 3);
        b.due("output(0)", b.gate.output(0), 4);
        b.run(6, 0, 0, DONE, 10);
        Bench c = bench("CALL of a METHOD without a RESULT pushes nothing");
        c.more(c.plain(0), "number 7; give");
        function(c, 1, 1, "load 0; call 0; give");
        c.load(0);
        c.run(1, 5, 0, DONE, 5);
        Bench d = bench("A METHOD begins with an empty stack, whatever the one before left on its own");
        d.more(d.plain(0), "number 1; number 2; number 3; number 4; give");
        function(d, 1, 0, "number 10; number 20; number 40; number 80; add; add; add; give");
        function(d, 2, 0, "call 0; call 1; call 1; add; call 0; give");
        d.load(0);
        d.run(2, 0, 0, DONE, 300);
        d.run(2, 0, 0, DONE, 300);
    }

    private void casts() {
        // 1 below 0, 2 below 1, 3 below 0.
        for (int made = 0; made <= 3; made++) {
            for (int to = 0; to <= 3; to++) {
                Bench b = bench("CAST throws the object if its CLASS is not BELOW a: " + made + " to " + to).classes(0, 1, 0);
                b.plain(0);
                b.gate.result(0, to, false, 0);
                b.more(0, "new " + made + "; built; cast " + to + "; give");
                b.load(0, 1, 2, 3);
                boolean below = made == to || to == 0 || made == 2 && to == 1;
                b.run(0, 0, 0, below ? DONE : THROWN, made);
            }
        }
        Bench c = bench("CAST throws the object if it is not null").classes(0);
        c.plain(0);
        c.gate.result(0, 1, true, 0);
        c.more(0, "null; cast 1; give");
        c.load(0, 1);
        c.run(0, 0, 0, DONE, -1);
    }

    private void guards() {
        for (int from = 2; from <= 5; from++) {
            for (int to = from; to <= 5; to++) {
                Bench b = bench("What is thrown goes to the GUARD of the INSTRUCTION: " + from + ".." + to);
                function(b, 0, 0, "new 0; built; go 3; fail; pop; number 5; give");
                b.gate.guard(0, from, to, 4);
                b.load(0);
                boolean guarded = from <= 3 && to >= 3;
                b.run(0, 0, 0, guarded ? DONE : THROWN, guarded ? 5 : 0);
            }
        }
        Bench c = bench("by the first GUARD; else out of the METHOD, to that of the CALL, and so on").classes(0);
        c.plain(0);
        c.more(0, "new 1; built; fail; give; give");
        c.gate.guard(0, 0, 1, 3);
        c.gate.guard(0, 3, 19, 4);
        c.plain(1);
        c.more(1, "number 1; pop; call 0; give; give");
        c.gate.guard(1, 0, 1, 4);
        c.plain(2);
        c.gate.result(2, 0, false, 0);
        c.more(2, "call 1; go 0; give; go 3");
        c.gate.guard(2, 0, 0, 2);
        c.gate.guard(2, 0, 19, 3);
        c.plain(3);
        c.more(3, "call 1; give; give");
        c.gate.guard(3, 1, 2, 2);
        c.load(0, 1);
        c.run(2, 0, 0, DONE, 1);
        told(c, 3 + 3 + 2, 1, 0, 0, 3);
        c.run(3, 0, 0, THROWN, 1);
        told(c, 3 + 3 + 1, 1, 0, 0, 3);
        Bench d = bench("from the sixth METHOD at work to the GUARD of the first");
        function(d, 0, 1, "load 0; zero 7; load 0; number -1; add; call 0; give; new 0; built; fail");
        d.gate.guard(0, 0, 0, 0);
        function(d, 1, 0, "number 4; call 0; give; pop; number 9; give");
        d.gate.guard(1, 1, 1, 3);
        d.load(0);
        d.run(1, 0, 0, DONE, 9);
        d.due("six at work", d.gate.told(4), 6);
        Bench e = bench("the GUARD of the INSTRUCTION, else that of the CALL: the nearest one if there are several");
        function(e, 0, 0, "new 0; built; fail; pop; number 1; give");
        e.gate.guard(0, 2, 2, 3);
        function(e, 1, 0, "call 0; give; pop; number 2; give");
        e.gate.guard(1, 0, 0, 2);
        function(e, 2, 0, "new 0; built; fail");
        function(e, 3, 0, "call 2; give; pop; number 3; give");
        e.gate.guard(3, 0, 0, 2);
        function(e, 4, 0, "call 3; give; pop; number 4; give");
        e.gate.guard(4, 0, 0, 2);
        e.load(0);
        e.run(1, 0, 0, DONE, 1);
        e.run(4, 0, 0, DONE, 3);
    }

    private void emptiedStack() {
        Bench b = bench("there the stack is emptied, the object pushed, and it goes on at its at");
        function(b, 0, 0, "number 1; number 2; number 4; new 0; built; fail; number 10; number 20; number 40; add; add; store 5; fail; load 5; give");
        b.gate.guard(0, 5, 5, 6);
        b.gate.guard(0, 12, 12, 13);
        b.due("check", b.gate.check(0), 0);
        b.load(0);
        b.run(0, 0, 0, DONE, 70);
        Bench c = bench("the stack is emptied of what lay under the arguments of the CALL, too").classes(0);
        c.plain(0);
        c.gate.param(0, -1, false, 0);
        c.more(0, "new 1; built; fail");
        c.plain(1);
        c.gate.result(1, 0, false, 0);
        c.more(1, "number 1; number 2; number 4; number 8; call 0; go 5; number 1; number 2; number 4; add; add; pop; give");
        c.gate.guard(1, 4, 4, 6);
        c.load(0, 1);
        c.run(1, 0, 0, DONE, 1);
        Bench d = bench("LOCALS stay as they are where it is caught");
        function(d, 0, 2, "load 1; store 0; new 0; built; fail; pop; load 0; give");
        d.gate.guard(0, 4, 4, 5);
        d.load(0);
        d.run(0, 3, 8, DONE, 8);
    }

    // ---- how it ends

    private void heap() {
        Bench b = functionBench("HEAP if a NEW would make a 25th object", 1, "load 0; zero 9; load 0; number -1; add; store 0; new 0; pop; go 0; number 1; give");
        b.load(0);
        b.run(0, 23, 0, DONE, 1);
        b.due("23 made", b.gate.told(1), 23);
        b.run(0, 24, 0, DONE, 1);
        told(b, 24 * 9 + 4, 24, 0, 0, 1);
        b.run(0, 25, 0, HEAP, 0);
        told(b, 24 * 9 + 7, 24, 0, 0, 1);
        b.run(0, 24, 0, DONE, 1);
        b.due("each run begins anew", b.gate.told(1), 24);
    }

    private void deep() {
        Bench b = bench("DEEP if a CALL would be the seventh METHOD at work");
        function(b, 0, 1, "load 0; zero 7; load 0; number -1; add; call 0; give; number 9; give");
        b.load(0);
        b.run(0, 0, 0, DONE, 9);
        b.due("one", b.gate.told(4), 1);
        b.run(0, 5, 0, DONE, 9);
        told(b, 5 * 7 + 4, 0, 0, 0, 6);
        b.run(0, 6, 0, DEEP, 0);
        told(b, 6 * 6, 0, 0, 0, 6);
        Bench c = bench("DEEP: (not of a BUILT-IN one)");
        builtIn(c, 1, 0);
        builtIn(c, 2, 1);
        builtIn(c, 3, 2);
        int m = function(c, 0, 1, "load 0; zero 7; load 0; number -1; add; call 3; give; call 0; dup; call 1; call 2; give");
        c.gate.input(6);
        c.load(0);
        c.run(m, 5, 0, DONE, 6);
        told(c, 5 * 7 + 7, 0, 1, 1, 6);
        c.due("output(0)", c.gate.output(0), 6);
        c.run(m, 6, 0, DEEP, 0);
        Bench d = bench("DEEP: METHODS that gave or were thrown out of are not at work any more");
        function(d, 0, 0, "number 1; give");
        d.plain(1);
        d.more(1, "new 0; built; fail");
        int rest = function(d, 2, 0, "call 0; call 0; call 0; call 0; pop; pop; pop; pop; call 0; call 0; call 0; call 1; give; pop; call 0; give");
        d.gate.guard(rest, 11, 11, 13);
        d.load(0);
        d.run(rest, 0, 0, DONE, 1);
        d.due("two at once", d.gate.told(4), 2);
    }

    private void tooLong() {
        // 56 rounds and what jumps out of them are 394 instructions.
        Bench b = functionBench("LONG if 400 INSTRUCTIONS were begun and one more would be", 1, ROUNDS + "number 1; dup; add; dup; add; give");
        b.load(0);
        b.run(0, 56, 0, DONE, 4);
        told(b, 400, 0, 0, 0, 1);
        b.run(0, 57, 0, LONG, 0);
        told(b, 400, 0, 0, 0, 1);
        Bench c = functionBench("LONG: the 401st", 1, ROUNDS + "number 1; dup; add; dup; add; dup; give");
        c.load(0);
        c.run(0, 56, 0, LONG, 0);
        told(c, 400, 0, 0, 0, 1);
        c.run(0, 55, 0, DONE, 4);
        told(c, 394, 0, 0, 0, 1);
        Bench d = functionBench("LONG: INSTRUCTIONS of all METHODS are counted, and a loop without an end ends", 0, "go 0");
        int m = function(d, 1, 0, "call 0; give");
        d.load(0);
        d.run(m, 0, 0, LONG, 0);
        told(d, 400, 0, 0, 0, 2);
        d.run(0, 0, 0, LONG, 0);
        told(d, 400, 0, 0, 0, 1);
    }

    /** Where the 400th instruction ends it in another way, that one counts; where it does not, one more would be. */
    private void longAtOnce() {
        Bench b = functionBench("LONG: the 400th is FAIL", 1, ROUNDS + "new 0; built; dup; dup; pop; fail; pop; number 3; give");
        b.load(0);
        b.run(0, 56, 0, THROWN, 0);
        told(b, 400, 1, 0, 0, 1);
        Bench c = functionBench("LONG: the 400th is FAIL, and guarded", 1, ROUNDS + "new 0; built; dup; dup; pop; fail; pop; number 3; give");
        c.gate.guard(0, 12, 12, 13);
        c.load(0);
        c.run(0, 56, 0, LONG, 0);
        c.run(0, 55, 0, DONE, 3);
        Bench d = functionBench("LONG: the 400th is CALL", 1, "go 0");
        function(d, 1, 0, "number 1; give");
        d.code(0, ROUNDS + "number 1; pop; number 1; pop; number 1; call 1; give");
        d.load(0);
        d.run(0, 56, 0, LONG, 0);
        told(d, 400, 0, 0, 0, 2);
        Bench e = bench("LONG: the 400th is NEW of a CLASS that is not LOADED").classes(0);
        function(e, 0, 1, ROUNDS + "number 1; number 1; pop; dup; pop; new 1; pop; give");
        e.load(0);
        e.run(0, 56, 0, UNLOADED, 0);
        e.due("told(0)", e.gate.told(0), 400);
        e.load(1);
        e.run(0, 56, 0, LONG, 0);
        e.due("told(1)", e.gate.told(1), 1);
        Bench f = bench("LONG: the 400th is GIVE of a METHOD that was called");
        function(f, 1, 0, "number 1; give");
        int m = function(f, 0, 1, ROUNDS + "number 1; pop; number 1; call 0; give");
        f.load(0);
        f.run(m, 56, 0, LONG, 0);
        told(f, 400, 0, 0, 0, 2);
    }

    private void unloaded() {
        Bench b = bench("UNLOADED where NEW names a CLASS that is not LOADED").classes(0);
        function(b, 0, 0, "new 1; built; pop; number 1; give");
        b.load(0);
        b.run(0, 0, 0, UNLOADED, 0);
        told(b, 1, 0, 0, 0, 1);
        b.load(1);
        b.run(0, 0, 0, DONE, 1);
        Bench c = bench("UNLOADED where the METHOD that is to do a CALL belongs to one that is not LOADED").classes(0);
        c.more(c.gate.method(1, 0, true), "give");
        c.more(c.plain(1), "number 1; pop; call 0; give");
        c.load(0);
        c.run(1, 0, 0, UNLOADED, 0);
        told(c, 3, 0, 0, 0, 1);
        c.load(1);
        c.run(1, 0, 0, DONE, 0);
        Bench d = bench("UNLOADED: a BUILT-IN METHOD, too").classes(0);
        int reads = d.gate.method(1, 0, true);
        d.gate.result(reads, -1, false, 0);
        d.gate.builtIn(reads, 0);
        int m = function(d, 1, 0, "call 0; give");
        d.gate.input(5);
        d.load(0);
        d.run(m, 0, 0, UNLOADED, 0);
        told(d, 1, 0, 0, 0, 1);
        d.load(1);
        d.run(m, 0, 0, DONE, 5);
        Bench e = bench("UNLOADED is nothing that a GUARD gets").classes(0);
        e.more(e.gate.method(1, 0, true), "give");
        e.plain(1);
        e.more(1, "call 0; give; give");
        e.gate.guard(1, 0, 19, 2);
        e.load(0);
        e.run(1, 0, 0, UNLOADED, 0);
        Bench f = bench("CAST to a CLASS that is not LOADED is no end").classes(0);
        f.plain(0);
        f.gate.result(0, 0, true, 0);
        f.more(0, "null; cast 1; give");
        f.load(0);
        f.run(0, 0, 0, DONE, -1);
    }

    private void unloadedFirst() {
        Bench b = bench("UNLOADED: this is looked at before HEAP").classes(0);
        function(b, 0, 1, "load 0; zero 9; load 0; number -1; add; store 0; new 0; pop; go 0; new 1; pop; number 1; give");
        b.load(0);
        b.run(0, 24, 0, UNLOADED, 0);
        b.due("told(1)", b.gate.told(1), 24);
        b.load(1);
        b.run(0, 24, 0, HEAP, 0);
        b.run(0, 23, 0, DONE, 1);
        Bench c = bench("UNLOADED: this is looked at before DEEP").classes(0);
        c.more(c.gate.method(1, 0, true), "give");
        function(c, 1, 1, "load 0; zero 7; load 0; number -1; add; call 1; give; call 0; number 1; give");
        c.load(0);
        c.run(1, 5, 0, UNLOADED, 0);
        c.due("told(4)", c.gate.told(4), 6);
        c.load(1);
        c.run(1, 5, 0, DEEP, 0);
        c.run(1, 4, 0, DONE, 1);
    }

    private void nulled() {
        Bench b = bench("NULLED: what is LOADED never comes there");
        b.gate.field(0, -1, false, 0);
        b.gate.field(0, 0, true, 0);
        b.gate.method(0, 1, false);
        b.more(0, "give");
        b.plain(0);
        for (String code : new String[] {"null; get 0; give", "null; number 1; put 0; give", "null; call 0; give", "null; fail",
            "new 0; get 1; get 0; give", "new 0; built; get 1; fail", "null; cast 0; call 0; give"}) {
            b.code(1, code);
            b.due("load with " + code, b.gate.load(0), QualifierGate.NULL);
            b.due("so it is not run", b.gate.run(1, 0, 0), BAD);
        }
        b.code(1, "new 0; built; get 1; store 5; load 5; isnull 9; load 5; get 0; give; give");
        b.load(0);
        b.run(1, 0, 0, DONE, 0);
        Bench c = bench("NULLED: not where null is tested for, passed on or cast");
        c.plain(0);
        c.gate.result(0, 0, true, 0);
        c.more(0, "null; store 0; load 0; isnull 6; load 0; fail; load 0; cast 0; give");
        c.load(0);
        c.run(0, 0, 0, DONE, -1);
    }

    // ---- promise 7: what built-in methods do

    private void reads() {
        Bench b = bench("READS: it gives the next input, 0 behind the last one");
        builtIn(b, 1, 0);
        int m = function(b, 0, 1, "load 0; zero 9; call 0; pop; load 0; number -1; add; store 0; go 0; call 0; give");
        for (int v = 1; v <= 8; v++) {
            b.gate.input(v == 8 ? LOW : v * 11);
        }
        b.load(0);
        for (int before = 0; before <= 9; before++) {
            b.run(m, before, 0, DONE, before == 7 ? LOW : before < 7 ? (before + 1) * 11 : 0);
            b.due("inputs taken (those behind the last one, too)", b.gate.told(3), before + 1);
        }
        Bench c = bench("READS without any input");
        builtIn(c, 1, 0);
        int n = function(c, 0, 0, "call 0; give");
        c.load(0);
        c.run(n, 4, 4, DONE, 0);
        told(c, 2, 0, 0, 1, 1);
        Bench d = bench("READS: its PARAMETERS are popped and do not matter");
        int reads = d.gate.method(0, 1, false);
        d.gate.param(reads, -1, false, 0);
        d.gate.param(reads, 0, true, 0);
        d.gate.result(reads, -1, false, 0);
        d.gate.builtIn(reads, 0);
        int k = function(d, 0, 0, "number 100; new 0; built; number 7; null; call 0; add; give");
        d.gate.input(5);
        d.load(0);
        d.run(k, 0, 0, DONE, 105);
    }

    private void writes() {
        Bench b = bench("WRITES: its first PARAMETER is put out");
        int writes = b.gate.method(0, 1, false);
        b.gate.param(writes, -1, false, 0);
        b.gate.param(writes, -1, false, 0);
        b.gate.param(writes, -1, false, 0);
        b.gate.builtIn(writes, 1);
        int m = function(b, 0, 2, "new 0; built; load 0; load 1; number 7; call 0; load 1; give");
        int stat = builtIn(b, 2, 1);
        int n = function(b, 3, 2, "number 1; load 0; call " + stat + "; load 1; call " + stat + "; give");
        b.load(0);
        b.run(m, 5, 6, DONE, 6);
        b.due("output(0)", b.gate.output(0), 5);
        told(b, 8, 1, 1, 0, 1);
        b.run(n, LOW, HIGH, DONE, 1);
        b.due("output(0)", b.gate.output(0), LOW);
        b.due("output(1)", b.gate.output(1), HIGH);
        told(b, 6, 0, 2, 0, 1);
    }

    private void same() {
        Bench b = bench("SAME: it gives its first PARAMETER").classes(0);
        int ints = b.gate.method(0, 1, false);
        b.gate.param(ints, -1, false, 0);
        b.gate.param(ints, -1, false, 0);
        b.gate.param(ints, -1, false, 0);
        b.gate.result(ints, -1, false, 0);
        b.gate.builtIn(ints, 2);
        int refs = b.gate.method(0, 2, true);
        b.gate.param(refs, 1, true, 0);
        b.gate.param(refs, 0, true, 0);
        b.gate.result(refs, 0, true, 0);
        b.gate.builtIn(refs, 2);
        int m = function(b, 0, 2, "new 0; built; load 0; load 1; number 7; call 0; give");
        for (int name = 3; name <= 4; name++) {
            int n = b.plain(name);
            b.gate.result(n, 0, true, 0);
            b.more(n, (name == 3 ? "new 1; built" : "null") + "; new 0; built; call " + refs + "; give");
        }
        b.load(0, 1);
        b.run(m, 5, 6, DONE, 5);
        told(b, 7, 1, 0, 0, 1);
        b.run(3, 0, 0, DONE, 1);
        b.run(4, 0, 0, DONE, -1);
        Bench c = bench("a BUILT-IN METHOD does the CALL of a METHOD above it that is not, and the other way round").classes(0, 1);
        int upper = c.gate.method(0, 1, false);
        c.gate.result(upper, -1, false, 0);
        c.more(upper, "number 50; give");
        int middle = c.gate.method(1, 1, false);
        c.gate.result(middle, -1, false, 0);
        c.gate.builtIn(middle, 0);
        int lower = c.gate.method(2, 1, false);
        c.gate.result(lower, -1, false, 0);
        c.more(lower, "number 52; give");
        for (int made = 0; made <= 2; made++) {
            function(c, 2 + made, 0, "new " + made + "; built; call " + (made == 2 ? middle : upper) + "; give");
        }
        c.gate.input(51);
        c.load(0, 1, 2);
        for (int made = 0; made <= 2; made++) {
            c.run(3 + made, 0, 0, DONE, 50 + made);
            c.due("METHODS at work for " + made, c.gate.told(4), made == 1 ? 1 : 2);
        }
    }

    private void builtInWithInstructions() {
        Bench b = bench("7: its INSTRUCTIONS, if it has any, are not looked at while it is: nor in a run");
        int reads = function(b, 1, 0, "number 5; give");
        b.gate.builtIn(reads, 0);
        int was = function(b, 2, 0, "number 6; give");
        b.gate.builtIn(was, 0);
        b.gate.builtIn(was, -1);
        int m = function(b, 0, 0, "call 0; call 1; add; give");
        b.gate.input(100);
        b.load(0);
        b.run(m, 0, 0, DONE, 106);
        told(b, 6, 0, 0, 1, 2);
    }

    // ---- promises 16 to 20

    private void input() {
        Bench b = bench("16: how many there are; FULL with eight");
        for (int v = 1; v <= 8; v++) {
            b.due("input " + v, b.gate.input(v % 2 == 0 ? LOW : HIGH), v);
        }
        b.due("a ninth", b.gate.input(0), FULL);
        b.due("a ninth still", b.gate.input(0), FULL);
        Bench c = bench("16: Each run begins with the first one");
        builtIn(c, 1, 0);
        int m = function(c, 0, 0, "call 0; call 0; add; give");
        c.gate.input(3);
        c.load(0);
        c.run(m, 0, 0, DONE, 3);
        c.run(m, 0, 0, DONE, 3);
        c.due("a further one behind a run", c.gate.input(40), 2);
        c.run(m, 0, 0, DONE, 43);
        c.run(m, 0, 0, DONE, 43);
    }

    private void refusedRun() {
        Bench b = bench("17: BAD if m is no METHOD");
        for (int m : new int[] {-1, 0, 1, LOW, HIGH}) {
            b.due("run(" + m + ")", b.gate.run(m, 0, 0), BAD);
        }
        b.more(b.plain(0), "give");
        b.load(0);
        for (int m : new int[] {-1, 1, LOW, HIGH}) {
            b.due("run(" + m + ")", b.gate.run(m, 0, 0), BAD);
        }
        b.run(0, 0, 0, DONE, 0);
        Bench c = bench("17: BAD if it is not STATIC");
        c.more(c.gate.method(0, 0, false), "give");
        c.load(0);
        c.due("run(0)", c.gate.run(0, 0, 0), BAD);
        Bench d = bench("17: BAD if it is BUILT-IN, with INSTRUCTIONS or without");
        for (int kind = 0; kind <= 2; kind++) {
            builtIn(d, kind, kind);
        }
        builtIn(d, 3, 0);
        d.more(3, "number 1; give");
        d.load(0);
        for (int m = 0; m <= 3; m++) {
            d.due("run(" + m + ")", d.gate.run(m, 0, 0), BAD);
        }
        Bench e = bench("17: BAD if its CLASS is not LOADED").classes(0);
        e.more(e.gate.method(1, 0, true), "give");
        e.due("nothing LOADED", e.gate.run(0, 0, 0), BAD);
        e.due("check(0)", e.gate.check(0), 0);
        e.due("looked through, but nothing LOADED", e.gate.run(0, 0, 0), BAD);
        e.load(0);
        e.due("another CLASS LOADED", e.gate.run(0, 0, 0), BAD);
        e.load(1);
        e.run(0, 0, 0, DONE, 0);
        refusedParameters();
    }

    private void refusedParameters() {
        for (int params = 0; params <= 3; params++) {
            for (int reference = -1; reference < params; reference++) {
                Bench b = bench("17: BAD if it has more than two PARAMETERS or one that is not of INTS: " + params + ", " + reference);
                b.plain(0);
                for (int p = 0; p < params; p++) {
                    b.gate.param(0, p == reference ? 0 : -1, true, 15);
                }
                b.more(0, "give");
                b.load(0);
                b.due("run(0)", b.gate.run(0, 0, 0), params <= 2 && reference < 0 ? DONE : BAD);
            }
        }
    }

    private void runArguments() {
        Bench b = bench("17: with x and y in its PARAMETERS (as many as it has)");
        function(b, 0, 0, "number 1; give");
        function(b, 1, 1, "load 0; give");
        function(b, 2, 2, "load 0; give");
        function(b, 3, 2, "load 1; give");
        b.load(0);
        b.run(0, 7, 8, DONE, 1);
        b.run(1, 7, 8, DONE, 7);
        b.run(2, 7, 8, DONE, 7);
        b.run(3, 7, 8, DONE, 8);
        b.run(2, LOW, HIGH, DONE, LOW);
        b.run(3, LOW, HIGH, DONE, HIGH);
        Bench c = bench("17: PARAMETERS of INTS, whatever their MARKS and null");
        c.plain(0);
        c.gate.param(0, -1, true, 15);
        c.gate.result(0, -1, false, 15);
        c.more(0, "load 0; give");
        c.load(0);
        c.run(0, 4, 0, DONE, 4);
    }

    private void value() {
        Bench b = bench("18: DONE: the INT that was given, or the CLASS of the object (-1 for null), 0 without a RESULT").classes(0, 0, 0, 0);
        String[] codes = {"number -1; give", "new 0; built; give", "new 4; built; give", "null; give", "number 1; give"};
        int[] sorts = {-1, 0, 0, 0, -2};
        int[] dues = {-1, 0, 4, -1, 0};
        for (int m = 0; m < codes.length; m++) {
            b.plain(m);
            b.gate.result(m, sorts[m], true, 0);
            b.more(m, codes[m]);
        }
        b.load(0, 4);
        for (int m = 0; m < codes.length; m++) {
            b.run(m, 0, 0, DONE, dues[m]);
        }
        Bench c = bench("18: THROWN: the CLASS of the object; else 0").classes(0, 0, 0);
        c.plain(0);
        c.more(0, "new 3; built; fail");
        c.plain(1);
        c.more(1, "new 0; built; fail");
        c.plain(2);
        c.gate.param(2, -1, false, 0);
        c.more(2, "go 0");
        c.plain(3);
        c.more(3, "call 3; give");
        c.plain(4);
        c.more(4, "new 0; pop; go 0");
        c.plain(5);
        c.more(5, "new 2; pop; give");
        c.load(0, 3);
        int[] hows = {THROWN, LONG, DEEP, HEAP, UNLOADED};
        int[] methods = {1, 2, 3, 4, 5};
        for (int k = 0; k < hows.length; k++) {
            c.run(0, 0, 0, THROWN, 3);
            c.run(methods[k], 7, 8, hows[k], 0);
        }
        Bench d = bench("18: 0, also if there was none");
        d.more(d.plain(0), "give");
        d.due("value()", d.gate.value(), 0);
        d.load(0);
        d.due("LOADED, but not run", d.gate.value(), 0);
    }

    private void output() {
        Bench b = bench("19: (0 first, the first 16 are kept); 0 if there is none");
        builtIn(b, 1, 1);
        b.plain(0);
        b.gate.param(1, -1, false, 0);
        b.more(1, "load 0; zero 9; load 0; call 0; load 0; number -1; add; store 0; go 0; give");
        b.load(0);
        for (int count : new int[] {0, 1, 15, 16, 17, 30, 3}) {
            b.run(1, count, 0, DONE, 0);
            b.due("told(2) of " + count, b.gate.told(2), count);
            for (int k : new int[] {-1, 0, 1, 2, 3, 14, 15, 16, 17, 29, LOW, HIGH}) {
                boolean kept = k >= 0 && k < 16 && k < count;
                b.due("output(" + k + ") of " + count, b.gate.output(k), kept ? count - k : 0);
            }
        }
        Bench c = bench("19: 0 if there was no run");
        for (int k : new int[] {-1, 0, 15, 16, LOW, HIGH}) {
            c.due("output(" + k + ")", c.gate.output(k), 0);
        }
        Bench d = bench("19: of a run that did not end with DONE, too");
        builtIn(d, 1, 1);
        d.more(d.plain(0), "number 7; call 0; go 0");
        d.more(d.plain(2), "number 8; call 0; new 0; built; fail");
        d.load(0);
        d.run(1, 0, 0, LONG, 0);
        told(d, 400, 0, 133, 0, 1);
        d.due("output(15)", d.gate.output(15), 7);
        d.run(2, 0, 0, THROWN, 0);
        told(d, 5, 1, 1, 0, 1);
        d.due("output(0)", d.gate.output(0), 8);
        d.due("output(1)", d.gate.output(1), 0);
    }

    private void told() {
        Bench b = bench("20: 0 if there was none; BAD for others");
        told(b, 0, 0, 0, 0, 0);
        for (int what : new int[] {-1, 5, LOW, HIGH}) {
            b.due("told(" + what + ")", b.gate.told(what), BAD);
        }
        b.more(b.plain(0), "give");
        b.load(0);
        told(b, 0, 0, 0, 0, 0);
        b.run(0, 0, 0, DONE, 0);
        told(b, 1, 0, 0, 0, 1);
        for (int what : new int[] {-1, 5, LOW, HIGH}) {
            b.due("told(" + what + ") of a run", b.gate.told(what), BAD);
        }
        Bench c = bench("20: of the latest run, not of those before");
        builtIn(c, 1, 0);
        builtIn(c, 2, 1);
        function(c, 0, 1, "load 0; zero 7; load 0; number -1; add; call 2; give; new 0; pop; call 0; dup; call 1; give");
        c.more(c.plain(3), "give");
        c.load(0);
        c.run(2, 2, 0, DONE, 0);
        told(c, 2 * 7 + 8, 1, 1, 1, 3);
        c.run(3, 0, 0, DONE, 0);
        told(c, 1, 0, 0, 0, 1);
        Bench d = bench("20: the most METHODS at work at once (BUILT-IN ones not counted)");
        builtIn(d, 1, 0);
        d.more(d.plain(0), "call 0; pop; give");
        d.load(0);
        d.run(1, 0, 0, DONE, 0);
        d.due("told(4)", d.gate.told(4), 1);
        Bench e = bench("20: the most METHODS at work at once: though fewer are so later");
        e.more(e.plain(0), "give");
        e.more(e.plain(1), "call 0; give");
        e.more(e.plain(2), "call 1; call 0; give");
        e.load(0);
        e.run(2, 0, 0, DONE, 0);
        told(e, 7, 0, 0, 0, 3);
    }

    private void manyCalls() {
        Bench b = functionBench("An object is used for at most 512 calls", 2, "load 0; load 1; add; give");
        b.load(0);
        int x = 0;
        while (b.gate.callsLeft() >= 3) {
            x++;
            b.run(0, x, x, DONE, 2 * x);
            b.due("check(0)", b.gate.check(0), 0);
        }
        while (b.gate.callsLeft() > 0) {
            b.due("value()", b.gate.value(), 2 * x);
        }
    }
}
