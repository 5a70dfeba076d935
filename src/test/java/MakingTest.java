/** Promises 1 to 10: what is there, and how more of it is made. */
public final class MakingTest {
    private static final int BAD = QualifierGate.BAD, FULL = QualifierGate.FULL, FROZEN = QualifierGate.FROZEN;
    private static final int LOW = Integer.MIN_VALUE, HIGH = Integer.MAX_VALUE;
    private final Report report = new Report();

    public static void main(String[] args) {
        new MakingTest().all();
    }

    private void all() {
        newObject();
        cls();
        field();
        method();
        param();
        result();
        builtIn();
        add();
        guard();
        wipe();
        frozen();
        report.end();
    }

    private Bench bench(String title) {
        return new Bench(report, title);
    }

    private void newObject() {
        Bench b = bench("promise 1");
        b.due("isLoaded(0)", b.gate.isLoaded(0), false);
        b.due("isLoaded(1)", b.gate.isLoaded(1), false);
        b.due("place()", b.gate.place(), -1);
        b.due("frame(0, -1, 0)", b.gate.frame(0, -1, 0), -1);
        b.due("frame(0, 0, 0)", b.gate.frame(0, 0, 0), BAD);
        b.due("check(0)", b.gate.check(0), BAD);
        b.due("value()", b.gate.value(), 0);
        b.due("output(0)", b.gate.output(0), 0);
        for (int what = 0; what <= 4; what++) {
            b.due("told(" + what + ")", b.gate.told(what), 0);
        }
        b.due("no FIELD yet", b.gate.method(0, 0, true) == 0 && b.gate.add(0, 9, 0) == BAD, true);
        b.due("class 0 is there", b.gate.load(0) != BAD, true);
        Gate other = new Gate();
        other.cls(0);
        b.due("objects share nothing", new Gate().cls(1), BAD);
    }

    private void cls() {
        Bench b = bench("promise 2");
        for (int wrong : new int[] {-1, 1, 6, LOW, HIGH}) {
            b.due("cls(" + wrong + ")", b.gate.cls(wrong), BAD);
        }
        for (int c = 1; c <= 5; c++) {
            b.due("cls(" + (c - 1) + ")", b.gate.cls(c - 1), c);
        }
        b.due("cls(0) with six", b.gate.cls(0), FULL);
        b.due("BAD before FULL", b.gate.cls(6), BAD);
        b.due("SUPERS are as made", b.gate.load(2), QualifierGate.NOT_READY);
    }

    private void field() {
        Bench b = bench("promise 3").classes(0);
        b.due("c -1", b.gate.field(-1, 0, true, 0), BAD);
        b.due("c 2", b.gate.field(2, 0, true, 0), BAD);
        b.due("sort -2", b.gate.field(0, -2, true, 0), BAD);
        b.due("sort 2", b.gate.field(0, 2, true, 0), BAD);
        b.due("marks -1", b.gate.field(0, 0, true, -1), BAD);
        b.due("marks 16", b.gate.field(0, 0, true, 16), BAD);
        for (int f = 0; f < 12; f++) {
            b.due("field " + f, b.gate.field(f % 2, f % 3 - 1, true, f), f);
        }
        b.due("a thirteenth", b.gate.field(0, -1, false, 15), FULL);
        b.due("BAD before FULL", b.gate.field(0, -1, false, 16), BAD);
    }

    private void method() {
        Bench b = bench("promise 4").classes(0);
        b.due("c -1", b.gate.method(-1, 0, true), BAD);
        b.due("c 2", b.gate.method(2, 0, true), BAD);
        b.due("name -1", b.gate.method(0, -1, true), BAD);
        b.due("name 6", b.gate.method(0, 6, true), BAD);
        for (int name = 0; name < 6; name++) {
            b.due("method(0, " + name + ")", b.gate.method(0, name, true), name);
            b.due("the same NAME again", b.gate.method(0, name, false), BAD);
        }
        for (int name = 0; name < 4; name++) {
            b.due("method(1, " + name + ")", b.gate.method(1, name, false), 6 + name);
        }
        b.due("an eleventh", b.gate.method(1, 4, true), FULL);
        b.due("BAD before FULL", b.gate.method(1, 3, true), BAD);
        b.due("no INSTRUCTIONS", b.gate.wipe(9), 0);
        b.due("not BUILT-IN", b.gate.check(9), QualifierGate.EMPTY);
        b.due("no PARAMETERS", b.gate.param(9, -1, false, 0), 1);
        b.due("no GUARDS", b.gate.guard(9, 0, 0, 0), 1);
        b.fine(0, "give");
    }

    private void param() {
        Bench b = bench("promise 5");
        b.due("no METHOD", b.gate.param(0, -1, false, 0), BAD);
        b.plain(0);
        b.due("m -1", b.gate.param(-1, -1, false, 0), BAD);
        b.due("m 1", b.gate.param(1, -1, false, 0), BAD);
        b.due("sort -2", b.gate.param(0, -2, false, 0), BAD);
        b.due("sort 1", b.gate.param(0, 1, false, 0), BAD);
        b.due("marks -1", b.gate.param(0, -1, false, -1), BAD);
        b.due("marks 16", b.gate.param(0, -1, false, 16), BAD);
        b.due("first", b.gate.param(0, -1, true, 5), 1);
        b.due("second", b.gate.param(0, 0, true, 9), 2);
        b.due("third", b.gate.param(0, 0, false, 15), 3);
        b.due("fourth", b.gate.param(0, 0, false, 15), FULL);
        b.due("BAD before FULL", b.gate.param(0, 1, false, 15), BAD);
        b.fine(0, "give");
        b.value(0, 0, Bench.INT, -1, false, 5, -1);
        b.value(0, 1, Bench.REF, 0, true, 9, -1);
        b.value(0, 2, Bench.REF, 0, false, 15, -1);
        b.value(0, 3, Bench.ANY, -1, false, 0, -1);
    }

    private void result() {
        Bench b = bench("promise 6");
        b.due("no METHOD", b.gate.result(0, -1, false, 0), false);
        b.plain(0);
        b.due("m -1", b.gate.result(-1, -1, false, 0), false);
        b.due("sort -3", b.gate.result(0, -3, false, 0), false);
        b.due("sort 1", b.gate.result(0, 1, false, 0), false);
        b.due("marks -1", b.gate.result(0, -1, false, -1), false);
        b.due("marks 16", b.gate.result(0, -1, false, 16), false);
        b.due("none, but marks 16", b.gate.result(0, -2, false, 16), false);
        b.due("none, but marks -1", b.gate.result(0, -2, false, -1), false);
        b.fine(0, "give");
        b.due("INTS", b.gate.result(0, -1, false, 0), true);
        b.error(0, "give", QualifierGate.STACK, 0);
        b.fine(0, "number 1; give");
        b.due("references", b.gate.result(0, 0, true, 0), true);
        b.error(0, "number 1; give", QualifierGate.KIND, 1);
        b.fine(0, "null; give");
        b.due("a refused one", b.gate.result(0, 0, false, 16), false);
        b.due("check again", b.gate.check(0), 0);
        b.due("none", b.gate.result(0, -2, true, 15), true);
        b.fine(0, "give");
    }

    private void builtIn() {
        Bench b = bench("promise 7");
        b.due("no METHOD", b.gate.builtIn(0, 0), false);
        b.plain(0);
        b.due("m -1", b.gate.builtIn(-1, 0), false);
        b.due("kind -2", b.gate.builtIn(0, -2), false);
        b.due("kind 3", b.gate.builtIn(0, 3), false);
        b.error(0, "add; give", QualifierGate.STACK, 0);
        b.gate.result(0, -1, false, 0);
        b.due("READS", b.gate.builtIn(0, 0), true);
        b.due("INSTRUCTIONS are not looked at", b.gate.check(0), 0);
        b.due("not BUILT-IN", b.gate.builtIn(0, -1), true);
        b.due("INSTRUCTIONS are looked at again", b.gate.check(0), QualifierGate.STACK);
    }

    private void add() {
        Bench b = bench("promise 8").classes(0);
        b.due("no METHOD", b.gate.add(0, 0, 0), BAD);
        b.plain(0);
        b.due("m -1", b.gate.add(-1, 0, 0), BAD);
        b.due("op -1", b.gate.add(0, -1, 0), BAD);
        b.due("op 18", b.gate.add(0, 18, 0), BAD);
        refusedArguments(b, 2, -1, 6);
        refusedArguments(b, 3, -1, 6);
        refusedArguments(b, 7, -1, 2);
        refusedArguments(b, 12, -1, 2);
        refusedArguments(b, 9, -1, 0);
        refusedArguments(b, 10, -1, 0);
        refusedArguments(b, 11, -1, 1);
        refusedArguments(b, 13, -1, 20);
        refusedArguments(b, 14, -1, 20);
        refusedArguments(b, 15, -1, 20);
        b.gate.field(1, -1, false, 0);
        int[][] good = {{2, 0}, {2, 5}, {3, 5}, {7, 1}, {12, 1}, {9, 0}, {10, 0}, {11, 0}, {13, 19}, {14, 19}, {15, 19}};
        int count = 0;
        for (int[] in : good) {
            count++;
            b.due("add(0, " + in[0] + ", " + in[1] + ")", b.gate.add(0, in[0], in[1]), count);
        }
        for (int op : new int[] {0, 1, 4, 5, 6, 8, 16, 17}) {
            count++;
            b.due("any a for " + op, b.gate.add(0, op, count % 2 == 0 ? LOW : HIGH), count);
        }
        b.due("the twentieth", b.gate.add(0, 16, 0), 20);
        b.due("one more", b.gate.add(0, 16, 0), FULL);
        b.due("BAD before FULL", b.gate.add(0, 2, 6), BAD);
        b.due("wipe", b.gate.wipe(0), 20);
    }

    private static void refusedArguments(Bench b, int op, int low, int high) {
        for (int a : new int[] {low, high, LOW, HIGH}) {
            b.due("add(0, " + op + ", " + a + ")", b.gate.add(0, op, a), BAD);
        }
    }

    private void guard() {
        Bench b = bench("promise 9");
        b.due("no METHOD", b.gate.guard(0, 0, 0, 0), BAD);
        b.plain(0);
        b.due("m -1", b.gate.guard(-1, 0, 0, 0), BAD);
        b.due("from -1", b.gate.guard(0, -1, 0, 0), BAD);
        b.due("to 20", b.gate.guard(0, 0, 20, 0), BAD);
        b.due("at -1", b.gate.guard(0, 0, 0, -1), BAD);
        b.due("at 20", b.gate.guard(0, 0, 0, 20), BAD);
        b.due("from above to", b.gate.guard(0, 3, 2, 0), BAD);
        b.due("from 20", b.gate.guard(0, 20, 20, 0), BAD);
        b.due("first", b.gate.guard(0, 2, 2, 3), 1);
        b.due("second", b.gate.guard(0, 0, 19, 19), 2);
        b.due("third", b.gate.guard(0, 0, 0, 0), FULL);
        b.due("BAD before FULL", b.gate.guard(0, 1, 0, 0), BAD);
        b.more(0, "new 0; built; fail; give");
        b.due("the first of two counts", b.gate.check(0), 0);
        b.whole(3, 1, -1, 0);
    }

    private void wipe() {
        Bench b = bench("promise 10");
        b.due("no METHOD", b.gate.wipe(0), BAD);
        b.plain(0);
        b.due("m 1", b.gate.wipe(1), BAD);
        b.due("m -1", b.gate.wipe(-1), BAD);
        b.due("none", b.gate.wipe(0), 0);
        b.gate.param(0, -1, false, 0);
        b.more(0, "number 3; pop; give");
        b.gate.guard(0, 0, 19, 0);
        b.gate.guard(0, 0, 19, 0);
        b.due("three", b.gate.wipe(0), 3);
        b.due("none any more", b.gate.wipe(0), 0);
        b.due("check", b.gate.check(0), QualifierGate.EMPTY);
        b.due("GUARDS went, too", b.gate.guard(0, 0, 0, 0), 1);
        b.due("PARAMETERS stay", b.gate.param(0, -1, false, 0), 2);
    }

    private void frozen() {
        Bench b = bench("FROZEN").classes(0);
        b.plain(0);
        b.more(0, "number 7; pop; give");
        b.load(0);
        b.due("cls", b.gate.cls(-9), FROZEN);
        b.due("field", b.gate.field(-9, -9, true, -9), FROZEN);
        b.due("method", b.gate.method(-9, -9, true), FROZEN);
        b.due("param", b.gate.param(-9, -9, true, -9), FROZEN);
        b.due("result", b.gate.result(0, -1, true, 0), false);
        b.due("builtIn", b.gate.builtIn(0, 0), false);
        b.due("add", b.gate.add(-9, -9, -9), FROZEN);
        b.due("guard", b.gate.guard(-9, -9, -9, -9), FROZEN);
        b.due("wipe", b.gate.wipe(-9), FROZEN);
        b.due("wipe(0)", b.gate.wipe(0), FROZEN);
        b.due("nothing changed", b.gate.check(0), 0);
        b.run(0, 0, 0, QualifierGate.DONE, 0);
        b.due("input goes on", b.gate.input(1), 1);
        Bench c = bench("not FROZEN");
        c.plain(0);
        c.due("a load that found an ERROR", c.gate.load(0), QualifierGate.EMPTY);
        c.due("freezes nothing", c.gate.cls(0), 1);
        c.due("nor one that was not ready", c.gate.load(1), QualifierGate.NOT_READY);
        c.due("freezes nothing", c.gate.add(0, 16, 0), 1);
    }
}
