/** The ERRORS of the section "Terms", and promises 11 to 15; the sentence is the bench's title. */
public final class EdgesOfErrorsTest {
    private static final int BAD = QualifierGate.BAD, NOT_READY = QualifierGate.NOT_READY;
    private static final int WAY = QualifierGate.WAY, CLASH = QualifierGate.CLASH, STACK = QualifierGate.STACK,
        KIND = QualifierGate.KIND, RAW = QualifierGate.RAW, NULL = QualifierGate.NULL, MARKS = QualifierGate.MARKS,
        EMPTY = QualifierGate.EMPTY, OUTSIDE = QualifierGate.OUTSIDE, VARIANCE = QualifierGate.VARIANCE;
    private static final int LOW = Integer.MIN_VALUE, HIGH = Integer.MAX_VALUE;
    private static final String NINETEEN = "give; give; give; give; give; give; give; give; give; give; give; give; give; give; give; give; give; give; give; ";
    private final Report report = new Report();

    public static void main(String[] args) {
        new EdgesOfErrorsTest().all();
    }

    private void all() {
        ways();
        kinds();
        below();
        raw();
        nulls();
        marks();
        order();
        orderOfValues();
        leastInstruction();
        unreached();
        empty();
        outside();
        variance();
        check();
        load();
        isLoaded();
        place();
        frame();
        frameOfTheLastLook();
        report.end();
    }

    private Bench bench(String sentence) {
        return new Bench(report, sentence);
    }

    /**
     * Method 0, static, with REF 0 that may be null and has mark 0, REF 1 that may not and has none, INT with mark 0;
     * fields of class 0: INTS, references that may not be null, those that may; of class 1: INTS; none may have marks.
     * Method 1, static, takes (REF 1 not null, INT), 2 of class 1 an INT; neither with marks.
     */
    private Bench world(String sentence) {
        Bench b = bench(sentence).classes(0, 0);
        b.gate.field(0, -1, false, 0);
        b.gate.field(0, 0, false, 0);
        b.gate.field(0, 0, true, 0);
        b.gate.field(1, -1, false, 0);
        b.plain(0);
        b.gate.param(0, 0, true, 1);
        b.gate.param(0, 1, false, 0);
        b.gate.param(0, -1, false, 1);
        b.plain(1);
        b.gate.param(1, 1, false, 0);
        b.gate.param(1, -1, false, 0);
        b.gate.method(1, 2, false);
        b.gate.param(2, -1, false, 0);
        return b;
    }

    // ---- 1 WAY

    private void ways() {
        Bench b = bench("WAY: a WAY leads to an INSTRUCTION that is not there: behind the last one");
        b.plain(0);
        b.error(0, "number 1", WAY, 0);
        b.error(0, "number 1; pop", WAY, 1);
        b.error(0, NINETEEN + "number 1", 0, 0);
        b.error(0, "go 19; " + NINETEEN.substring(6) + "number 1", WAY, 19);
        b.fine(0, "go 19; " + NINETEEN.substring(6) + "give");
        Bench c = bench("WAY: a WAY leads to an INSTRUCTION that is not there: by GO, ZERO, ISNULL");
        c.plain(0);
        c.error(0, "go 2; give", WAY, 0);
        c.fine(0, "go 1; give");
        c.error(0, "go 19; give", WAY, 0);
        c.error(0, "number 1; zero 3; give", WAY, 1);
        c.fine(0, "number 1; zero 2; give");
        c.error(0, "number 1; zero 0", WAY, 1);
        c.error(0, "null; isnull 3; give", WAY, 1);
        c.fine(0, "null; isnull 2; give");
        c.error(0, "null; isnull 0", WAY, 1);
        Bench d = bench("WAY: a WAY leads to an INSTRUCTION that is not there: by a GUARD");
        d.plain(0);
        for (String one : new String[] {"new 0; built; fail; give", "go 1; null; cast 0; give", "number 1; go 2; call 0; give"}) {
            guarded(d, one, 2, 4, WAY, 2);
            guarded(d, one, 2, 3, 0, 0);
            guarded(d, one, 3, 4, 0, 0);
        }
        Bench e = bench("no WAY behind GIVE and FAIL");
        e.plain(0);
        e.fine(0, "give");
        e.fine(0, "new 0; built; fail");
    }

    /** The code with a guard from an instruction on. */
    private static void guarded(Bench b, String code, int from, int at, int error, int place) {
        b.code(0, code);
        b.gate.guard(0, from, 19, at);
        b.due("check of " + code + " guarded from " + from + " at " + at, b.gate.check(0), error);
        b.due("place in " + code, b.gate.place(), error == 0 ? -1 : place);
    }

    // ---- 4 KIND

    private void kinds() {
        Bench b = world("KIND: a VALUE is not INT for ADD, ZERO, a FIELD, PARAMETER or RESULT of INTS");
        for (String value : new String[] {"load 5", "null", "load 1", "new 1"}) {
            b.error(0, value + "; number 1; add; give", KIND, 2);
            b.error(0, "number 1; " + value + "; add; give", KIND, 2);
            b.error(0, value + "; zero 2; give", KIND, 1);
            b.error(0, "load 1; " + value + "; put 0; give", KIND, 2);
            b.error(0, "load 1; " + value + "; call 1; give", KIND, 2);
        }
        b.gate.result(0, -1, false, 0);
        for (String value : new String[] {"load 5", "null", "load 1", "new 1"}) {
            b.error(0, value + "; give", KIND, 1);
        }
        b.fine(0, "number 1; give");
        Bench c = world("KIND: it is neither NULL, nor RAW, nor REF");
        for (String value : new String[] {"load 5", "number 1"}) {
            c.error(0, value + "; get 0; give", KIND, 1);
            c.error(0, value + "; number 1; put 0; give", KIND, 2);
            c.error(0, "load 1; " + value + "; put 2; give", KIND, 2);
            c.error(0, value + "; number 1; call 1; give", KIND, 2);
            c.error(0, value + "; number 1; call 2; give", KIND, 2);
            c.error(0, value + "; cast 0; give", KIND, 1);
            c.error(0, value + "; isnull 2; give", KIND, 1);
            c.error(0, value + "; fail", KIND, 1);
        }
        c.gate.result(0, 0, true, 15);
        c.error(0, "load 5; give", KIND, 1);
        c.error(0, "number 1; give", KIND, 1);
        Bench d = world("KIND: or it is not RAW for BUILT");
        for (String value : new String[] {"load 5", "number 1", "null", "load 1"}) {
            d.error(0, value + "; built; give", KIND, 1);
        }
        d.error(0, "new 2; number 1; built; give", KIND, 2);
        Bench e = world("NULL is of every CLASS");
        e.fine(0, "load 1; null; put 2; give");
        e.fine(0, "null; cast 2; pop; give");
        e.fine(0, "null; isnull 2; give");
        e.error(0, "null; number 1; call 2; give", NULL, 2);
        e.error(0, "null; number 1; put 3; give", NULL, 2);
    }

    private void below() {
        // 1 below 0, 2 below 1, 3 below 0: what comes as REF 1 or RAW 1 goes to 0 and 1, not to 2 and 3.
        for (int needed = 0; needed <= 3; needed++) {
            int due = needed <= 1 ? 0 : KIND;
            Bench b = bench("KIND: REF of a CLASS that is not BELOW the one needed, " + needed).classes(0, 1, 0);
            b.gate.field(needed, -1, false, 0);
            b.gate.field(0, needed, true, 0);
            b.plain(0);
            b.gate.param(0, 1, false, 0);
            b.plain(1);
            b.gate.param(1, needed, true, 0);
            b.gate.method(needed, 2, false);
            b.error(0, "load 0; get 0; give", due, 1);
            b.error(0, "load 0; number 1; put 0; give", due, 2);
            b.error(0, "load 0; load 0; put 1; give", due, 2);
            b.error(0, "load 0; call 1; give", due, 1);
            b.error(0, "load 0; call 2; give", due, 1);
            b.fine(0, "load 0; cast " + needed + "; give");
            b.error(0, "new 1; get 0; give", due, 1);
            b.error(0, "new 1; number 1; put 0; give", due, 2);
            b.error(0, "load 0; new 1; put 1; give", due == 0 ? RAW : KIND, 2);
            b.error(0, "new 1; call 1; give", due == 0 ? RAW : KIND, 1);
            b.error(0, "new 1; call 2; give", due == 0 ? RAW : KIND, 1);
            b.gate.result(0, needed, true, 0);
            b.error(0, "load 0; give", due, 1);
            b.error(0, "new 1; give", due == 0 ? RAW : KIND, 1);
        }
        Bench c = bench("for CAST, ISNULL, FAIL CLASS 0").classes(0, 1);
        c.plain(0);
        c.gate.param(0, 2, false, 0);
        c.fine(0, "load 0; cast 0; give");
        c.fine(0, "load 0; isnull 2; give");
        c.fine(0, "load 0; fail");
    }

    // ---- 5 RAW

    private void raw() {
        Bench b = world("RAW: a VALUE is RAW where a reference is needed, but for the object of GET and PUT");
        b.error(0, "load 1; new 0; put 2; give", RAW, 2);
        b.error(0, "new 1; number 1; call 1; give", RAW, 2);
        b.error(0, "new 1; number 1; call 2; give", RAW, 2);
        b.error(0, "new 0; cast 0; give", RAW, 1);
        b.error(0, "new 0; isnull 2; give", RAW, 1);
        b.error(0, "new 0; fail", RAW, 1);
        b.fine(0, "new 0; get 0; give");
        b.fine(0, "new 0; number 1; put 0; give");
        b.fine(0, "new 0; dup; pop; store 3; load 3; give");
        b.gate.result(0, 0, true, 0);
        b.error(0, "new 0; give", RAW, 1);
        // 1 below 0, 2 below 1, 3 below 0.
        Bench c = bench("RAW: BUILT with a FIELD of the object that is of references, may not be null, and is not SET").classes(0, 1, 0);
        for (int owner = 0; owner <= 3; owner++) {
            c.gate.field(owner, 0, false, 0);
        }
        c.plain(0);
        c.gate.param(0, 3, false, 0);
        c.error(0, "new 0; built; give", RAW, 1);
        c.fine(0, "new 0; dup; load 0; put 0; built; give");
        c.error(0, "new 1; dup; load 0; put 0; built; give", RAW, 4);
        c.error(0, "new 1; dup; load 0; put 1; built; give", RAW, 4);
        c.fine(0, "new 1; dup; load 0; put 0; dup; load 0; put 1; built; give");
        c.error(0, "new 2; dup; load 0; put 0; dup; load 0; put 1; built; give", RAW, 7);
        c.fine(0, "new 2; dup; load 0; put 0; dup; load 0; put 1; dup; load 0; put 2; built; give");
        c.fine(0, "new 3; dup; load 0; put 0; dup; load 0; put 3; built; give");
        Bench d = bench("RAW: not for a FIELD of INTS, one that may be null, or one of a CLASS that the object's is not BELOW").classes(0, 0);
        d.gate.field(0, -1, false, 0);
        d.gate.field(0, 0, true, 0);
        d.gate.field(2, 0, false, 0);
        d.plain(0);
        d.fine(0, "new 0; built; give");
        d.fine(0, "new 1; built; give");
        d.error(0, "new 2; built; give", RAW, 1);
        Bench e = bench("RAW: the last of twelve FIELDS, too");
        for (int f = 0; f < 12; f++) {
            e.gate.field(0, f == 11 ? 0 : -1, false, 0);
        }
        e.plain(0);
        e.gate.param(0, 0, false, 0);
        e.error(0, "new 0; built; give", RAW, 1);
        e.fine(0, "new 0; dup; load 0; put 11; built; give");
    }

    // ---- 6 NULL

    private void nulls() {
        Bench b = world("NULL: the object of GET, PUT, CALL, FAIL may be null");
        b.gate.method(0, 3, false);
        for (String value : new String[] {"null", "load 0"}) {
            b.error(0, value + "; get 0; give", NULL, 1);
            b.error(0, value + "; number 1; put 0; give", NULL, 2);
            b.error(0, value + "; call 3; give", NULL, 1);
            b.error(0, value + "; fail", NULL, 1);
            b.fine(0, value + "; cast 0; give");
            b.fine(0, value + "; isnull 2; give");
        }
        Bench c = world("NULL: a VALUE that may be null comes to a FIELD, PARAMETER, RESULT of references that may not");
        c.error(0, "load 1; null; put 1; give", NULL, 2);
        c.fine(0, "load 1; null; put 2; give");
        c.error(0, "null; number 1; call 1; give", NULL, 2);
        c.fine(0, "load 1; number 1; call 1; give");
        c.gate.result(0, 0, false, 0);
        c.error(0, "null; give", NULL, 1);
        c.fine(0, "load 1; give");
        c.gate.result(0, 0, true, 0);
        c.fine(0, "null; give");
        Bench d = bench("NULL: not where INTS are, though they said that they may be null");
        d.gate.field(0, -1, true, 0);
        d.gate.field(0, -1, false, 0);
        d.plain(0);
        d.gate.param(0, 0, false, 0);
        d.gate.param(0, -1, true, 0);
        d.gate.result(0, -1, false, 0);
        d.fine(0, "load 0; load 1; put 1; load 1; give");
        d.fine(0, "load 0; get 0; give");
        Bench e = bench("NULL: whether it may be null counts, not whether its KIND is NULL");
        e.plain(0);
        e.fine(0, "null; store 0; load 0; isnull 6; load 0; fail; give");
    }

    // ---- 7 MARKS

    private void marks() {
        for (int has = 0; has <= 15; has++) {
            for (int may : new int[] {0, 1, 2, 4, 8, 6, 9, 15, 15 - has}) {
                int due = (has & ~may) == 0 ? 0 : MARKS;
                Bench b = bench("MARKS: a VALUE has MARKS " + has + " that the FIELD, PARAMETER, RESULT to which it comes may not have: " + may);
                b.gate.field(0, -1, false, may);
                b.gate.field(0, 0, false, may);
                b.plain(0);
                b.gate.param(0, -1, false, has);
                b.gate.param(0, 0, false, has);
                b.plain(1);
                b.gate.param(1, -1, false, may);
                b.gate.param(1, 0, false, 15);
                b.plain(2);
                b.gate.param(2, -1, false, 15);
                b.gate.param(2, 0, false, may);
                b.error(0, "load 1; load 0; put 0; give", due, 2);
                b.error(0, "load 1; load 1; put 1; give", due, 2);
                b.error(0, "load 0; load 1; call 1; give", due, 2);
                b.error(0, "load 0; load 1; call 2; give", due, 2);
                b.gate.result(0, -1, false, may);
                b.error(0, "load 0; give", due, 1);
                b.gate.result(0, 0, false, may);
                b.error(0, "load 1; give", due, 1);
            }
            Bench c = bench("MARKS: the object of a CALL or FAIL has any, here " + has);
            c.plain(0);
            c.gate.param(0, 0, false, has);
            c.gate.method(0, 1, false);
            c.gate.field(0, -1, false, 0);
            c.error(0, "load 0; call 1; give", has == 0 ? 0 : MARKS, 1);
            c.error(0, "load 0; fail", has == 0 ? 0 : MARKS, 1);
            c.fine(0, "load 0; get 0; give");
            c.fine(0, "load 0; number 1; put 0; give");
            c.fine(0, "load 0; cast 0; isnull 3; give");
        }
    }

    // ---- the first that applies counts

    private void order() {
        Bench b = world("ERRORS, the first that applies counts: WAY before all others");
        b.error(0, "number 0; zero 3; number 1; number 2", WAY, 3);
        b.error(0, "number 0; zero 3; number 1; go 19; give", WAY, 3);
        b.error(0, "add", WAY, 0);
        b.error(0, "number 1; number 1; number 1; number 1; number 1", WAY, 4);
        b.error(0, "null; zero 9; give", WAY, 1);
        b.error(0, "new 0; isnull 9; give", WAY, 1);
        b.error(0, "null; get 0", WAY, 1);
        guarded(b, "go 1; load 0; fail; give", 2, 9, WAY, 2);
        b.error(0, "load 1; load 2; put 0", WAY, 2);
        Bench c = world("ERRORS, the first that applies counts: STACK before KIND, RAW, NULL, MARKS");
        c.error(0, "null; add; give", STACK, 1);
        c.error(0, "new 1; call 1; give", STACK, 1);
        c.error(0, "number 1; put 1; give", STACK, 1);
        c.error(0, "null; put 1; give", STACK, 1);
        c.error(0, "load 2; put 0; give", STACK, 1);
        Bench d = world("ERRORS, the first that applies counts: KIND before RAW, NULL, MARKS, of one VALUE");
        d.error(0, "new 2; number 1; call 1; give", KIND, 2);
        d.error(0, "load 0; number 1; call 1; give", KIND, 2);
        d.error(0, "load 0; number 1; call 2; give", KIND, 2);
        Bench e = world("ERRORS, the first that applies counts: NULL before MARKS, of one VALUE");
        e.error(0, "load 0; fail", NULL, 1);
        e.error(0, "load 0; cast 1; number 1; call 1; give", NULL, 3);
        e.error(0, "load 0; cast 1; number 1; call 2; give", NULL, 3);
        e.error(0, "load 0; isnull 5; load 0; fail; give; give", MARKS, 3);
    }

    private void orderOfValues() {
        Bench b = world("ERRORS, the first that applies counts: of two VALUES, whichever has it");
        // The object or the first argument, the second one: KIND with each other, and so on.
        b.error(0, "new 1; null; call 1; give", KIND, 2);
        b.error(0, "null; null; call 1; give", KIND, 2);
        b.error(0, "load 0; cast 1; null; call 1; give", KIND, 3);
        b.error(0, "number 1; load 2; call 1; give", KIND, 2);
        b.error(0, "number 1; new 0; put 2; give", KIND, 2);
        b.error(0, "number 1; null; put 1; give", KIND, 2);
        b.error(0, "number 1; load 2; put 0; give", KIND, 2);
        b.error(0, "null; number 1; put 1; give", KIND, 2);
        b.error(0, "null; null; put 0; give", KIND, 2);
        b.error(0, "null; new 0; put 2; give", RAW, 2);
        b.error(0, "new 1; load 2; call 1; give", RAW, 2);
        b.error(0, "null; load 2; call 1; give", NULL, 2);
        b.error(0, "null; load 2; put 0; give", NULL, 2);
        b.error(0, "null; load 2; call 2; give", NULL, 2);
        b.error(0, "load 1; load 2; call 1; give", MARKS, 2);
        b.error(0, "load 1; load 2; call 2; give", MARKS, 2);
        Bench c = bench("ERRORS, the first that applies counts: of the object and three arguments");
        c.plain(0);
        c.gate.param(0, 0, false, 1);
        c.gate.param(0, 0, true, 0);
        c.gate.method(0, 1, false);
        c.gate.param(1, 0, false, 0);
        c.gate.param(1, 0, false, 0);
        c.gate.param(1, 0, true, 0);
        c.error(0, "load 0; new 0; null; number 1; call 1; give", KIND, 4);
        c.error(0, "load 0; load 1; load 1; new 0; call 1; give", RAW, 4);
        c.error(0, "load 0; load 0; load 1; load 0; call 1; give", NULL, 4);
        c.error(0, "new 0; built; dup; dup; load 0; call 1; give", MARKS, 5);
        c.fine(0, "new 0; built; dup; dup; load 1; call 1; give");
    }

    private void leastInstruction() {
        Bench b = world("ERRORS of a METHOD: that of its least INSTRUCTION that has one");
        b.error(0, "load 1; load 2; put 0; null; fail", MARKS, 2);
        b.error(0, "null; fail; give", NULL, 1);
        b.error(0, "go 4; null; fail; give; number 1; zero 1; null; add; give", NULL, 2);
        b.error(0, "go 2; number 1; null; null; add; go 19", KIND, 4);
        Bench c = bench("ERRORS of a METHOD: INSTRUCTION 0 and INSTRUCTION 19");
        c.plain(0);
        c.error(0, "pop; give", STACK, 0);
        c.error(0, "go 19; " + NINETEEN.substring(6) + "fail", STACK, 19);
    }

    private void unreached() {
        Bench b = world("ERRORS of an INSTRUCTION that is REACHED: none where it is not");
        for (String wrong : new String[] {"number 1", "go 19", "pop; give", "null; zero 0", "new 0; fail", "null; fail", "load 0; fail", "load 5; built"}) {
            b.fine(0, "give; " + wrong);
        }
        b.fine(0, "go 0; number 1; number 1; number 1; number 1; number 1");
    }

    // ---- 8, 9

    private void empty() {
        Bench b = bench("EMPTY: it is not BUILT-IN and has no INSTRUCTIONS");
        b.plain(0);
        b.due("none", b.gate.check(0), EMPTY);
        b.due("place", b.gate.place(), 31);
        b.gate.guard(0, 0, 0, 0);
        b.due("a GUARD alone", b.gate.check(0), EMPTY);
        b.fine(0, "give");
        b.gate.wipe(0);
        b.due("none any more", b.gate.check(0), EMPTY);
        b.gate.builtIn(0, 1);
        b.due("BUILT-IN, and not as said", b.gate.check(0), OUTSIDE);
        b.gate.param(0, -1, false, 0);
        b.due("BUILT-IN, as said", b.gate.check(0), 0);
        b.gate.builtIn(0, -1);
        b.due("not BUILT-IN again", b.gate.check(0), EMPTY);
    }

    /** Whether a built-in method is as said, for each sort of its first parameter (-2: none) and of its result. */
    private void outside() {
        for (int kind = 0; kind <= 2; kind++) {
            for (int param = -2; param <= 2; param++) {
                for (int result = -2; result <= 2; result++) {
                    boolean fits = switch (kind) {
                        case 0 -> result == -1;
                        case 1 -> param == -1 && result == -2;
                        default -> param == -1 ? result == -1 : param >= 0 && result >= 0 && result <= param;
                    };
                    // A chain of classes: c is below d if d <= c.
                    Bench b = bench("OUTSIDE: BUILT-IN " + kind + " with PARAMETER " + param + ", RESULT " + result).classes(0, 1);
                    builtIn(b, kind, param, result, true);
                    b.due("check", b.gate.check(0), fits ? 0 : OUTSIDE);
                    b.due("place", b.gate.place(), fits ? -1 : 31);
                    b.due("load", b.gate.load(0), fits ? 0 : OUTSIDE);
                }
            }
        }
        for (int may = 0; may < 4; may++) {
            boolean in = (may & 1) != 0;
            boolean out = (may & 2) != 0;
            Bench b = bench("OUTSIDE: SAME may be null if that may: in " + in + ", out " + out);
            b.plain(0);
            b.gate.builtIn(0, 2);
            b.gate.param(0, 0, in, 15);
            b.gate.result(0, 0, out, 0);
            b.due("check", b.gate.check(0), in && !out ? OUTSIDE : 0);
            Bench c = bench("OUTSIDE: for INTS that does not matter: in " + in + ", out " + out);
            c.plain(0);
            c.gate.builtIn(0, 2);
            c.gate.param(0, -1, in, 15);
            c.gate.result(0, -1, out, 0);
            c.due("check", c.gate.check(0), 0);
        }
        Bench d = bench("OUTSIDE: the first PARAMETER is not the object, and further ones do not matter");
        int m = d.gate.method(0, 0, false);
        d.gate.builtIn(m, 2);
        d.gate.result(m, 0, true, 0);
        d.due("no PARAMETER", d.gate.check(m), OUTSIDE);
        d.gate.param(m, 0, true, 0);
        d.due("one", d.gate.check(m), 0);
        d.gate.param(m, -1, true, 0);
        d.gate.param(m, -1, true, 0);
        d.due("three", d.gate.check(m), 0);
    }

    private static void builtIn(Bench b, int kind, int param, int result, boolean may) {
        b.plain(0);
        b.gate.builtIn(0, kind);
        if (param != -2) {
            b.gate.param(0, param, may, 0);
        }
        b.gate.result(0, result, may, 15);
    }

    // ---- 10 VARIANCE

    private void variance() {
        for (int which = 0; which < 4; which++) {
            Bench b = bench("VARIANCE: one of them is STATIC, " + which).classes(0);
            b.more(b.gate.method(0, 0, (which & 1) != 0), "give");
            b.more(b.gate.method(1, 0, (which & 2) != 0), "give");
            b.load(0);
            b.due("load(1)", b.gate.load(1), which == 0 ? 0 : VARIANCE);
        }
        for (int upper = 0; upper <= 3; upper++) {
            for (int lower = 0; lower <= 3; lower++) {
                Bench b = bench("VARIANCE: they have not as many PARAMETERS, " + upper + " and " + lower).classes(0);
                int[] counts = {upper, lower};
                for (int c = 0; c <= 1; c++) {
                    int m = b.gate.method(c, 0, false);
                    b.more(m, "give");
                    for (int p = 0; p < counts[c]; p++) {
                        b.gate.param(m, -1, false, 0);
                    }
                }
                b.load(0);
                b.due("load(1)", b.gate.load(1), upper == lower ? 0 : VARIANCE);
            }
        }
        varianceOfSorts();
        varianceOfNull();
        varianceOfMarks();
        varianceOfTheLast();
        nearest();
    }

    /** Classes 0 to 3, of which 2 is below 1; loads class 3 with a method of a name that class 0 has, too. */
    private int varied(int[] upper, int[] lower, int position, boolean forResult) {
        Bench b = bench("VARIANCE").classes(0, 1, 0);
        int[][] said = {upper, lower};
        for (int m = 0; m < 2; m++) {
            b.gate.method(m == 0 ? 0 : 3, 0, false);
            for (int p = 0; p < position; p++) {
                b.gate.param(m, -1, false, 0);
            }
            if (!forResult) {
                b.gate.param(m, said[m][0], said[m][1] == 1, said[m][2]);
                b.more(m, "give");
            } else {
                b.gate.result(m, said[m][0], said[m][1] == 1, said[m][2]);
                b.more(m, "go 0");
            }
        }
        b.load(0);
        return b.gate.load(3);
    }

    private void varied(String sentence, int[] upper, int[] lower, boolean forResult, boolean fits) {
        report.due("VARIANCE: " + sentence, varied(upper, lower, 0, forResult), fits ? 0 : VARIANCE);
    }

    private static boolean below(int c, int d) {
        return c == d || d == 0 || c == 2 && d == 1;
    }

    private void varianceOfSorts() {
        for (int upper = -2; upper <= 3; upper++) {
            for (int lower = -2; lower <= 3; lower++) {
                int[] u = {upper, 0, 0};
                int[] l = {lower, 0, 0};
                boolean plain = upper < 0 || lower < 0;
                if (upper != -2 && lower != -2) {
                    varied("PARAMETER " + upper + " and " + lower, u, l, false, plain ? upper == lower : below(upper, lower));
                }
                varied("RESULT " + upper + " and " + lower, u, l, true, plain ? upper == lower : below(lower, upper));
            }
        }
    }

    private void varianceOfNull() {
        for (int sort = -2; sort <= 0; sort++) {
            for (int may = 0; may < 4; may++) {
                int[] upper = {sort, may & 1, 0};
                int[] lower = {sort, may >> 1, 0};
                if (sort != -2) {
                    varied("the upper one may be null and the lower one not, " + sort + " " + may, upper, lower, false, sort < 0 || may != 1);
                }
                varied("for the RESULT the other way round, null, " + sort + " " + may, upper, lower, true, sort < 0 || may != 2);
            }
        }
    }

    private void varianceOfMarks() {
        for (int sort = -2; sort <= 0; sort++) {
            for (int[] m : new int[][] {{0, 0}, {15, 15}, {1, 0}, {0, 1}, {8, 7}, {6, 14}, {14, 6}, {15, 7}, {7, 15}}) {
                int[] upper = {sort, 0, m[0]};
                int[] lower = {sort, 0, m[1]};
                if (sort != -2) {
                    varied("the upper one may have MARKS that the lower one may not", upper, lower, false, (m[0] & ~m[1]) == 0);
                }
                varied("for the RESULT the other way round, MARKS", upper, lower, true, sort == -2 || (m[1] & ~m[0]) == 0);
            }
        }
    }

    private void varianceOfTheLast() {
        for (int position = 0; position < 3; position++) {
            int[] ints = {-1, 0, 0};
            int[] marked = {-1, 0, 4};
            report.due("VARIANCE: PARAMETER " + position + " wider", varied(ints, marked, position, false), 0);
            report.due("VARIANCE: PARAMETER " + position + " narrower", varied(marked, ints, position, false), VARIANCE);
        }
    }

    private void nearest() {
        Bench b = bench("the one of the lower CLASS with the nearest one above").classes(0, 1, 2);
        int[] owners = {0, 1, 3};
        int[] marks = {3, 7, 3};
        for (int m = 0; m < 3; m++) {
            b.gate.method(owners[m], 5, false);
            b.gate.param(m, -1, false, marks[m]);
            b.more(m, "give");
        }
        b.load(0, 1, 2);
        b.due("it fits the one two above, not the nearest", b.gate.load(3), VARIANCE);
        b.due("place()", b.gate.place(), 32 * 2 + 31);
        Bench c = bench("VARIANCE: where two CLASSES, one BELOW the other, have METHODS of the same NAME: no others").classes(0, 0, 1);
        c.more(c.gate.method(1, 0, true), "give");
        c.more(c.gate.method(2, 0, false), "give");
        c.more(c.gate.method(3, 1, true), "give");
        c.load(0, 1, 2, 3);
        Bench d = bench("VARIANCE: the lower one has it, not the upper one, whichever was made first").classes(0);
        d.more(d.gate.method(1, 0, true), "give");
        d.more(d.gate.method(0, 0, false), "give");
        d.load(0);
        d.due("load(1)", d.gate.load(1), VARIANCE);
        d.due("place()", d.gate.place(), 31);
    }

    // ---- promise 11

    private void check() {
        Bench b = bench("11: BAD if m is no METHOD");
        b.plain(0);
        b.plain(1);
        for (int m : new int[] {-1, 2, 10, LOW, HIGH}) {
            b.due("check(" + m + ")", b.gate.check(m), BAD);
        }
        b.due("the first", b.gate.check(0), EMPTY);
        b.due("the last", b.gate.check(1), EMPTY);
        Bench c = bench("11: Looks METHOD m through by itself: no VARIANCE, and no other METHOD").classes(0);
        c.more(c.gate.method(0, 0, true), "give");
        int m = c.gate.method(1, 0, false);
        c.more(m, "call " + c.plain(1) + "; give");
        c.due("VARIANCE is not looked for, nor is what it calls", c.gate.check(m), 0);
        Bench d = bench("11: also when all is LOADED");
        d.plain(0);
        d.fine(0, "give");
        d.load(0);
        d.due("check(0)", d.gate.check(0), 0);
    }

    // ---- promise 12

    private void load() {
        Bench b = bench("12: BAD if c is no CLASS").classes(0);
        for (int c : new int[] {-1, 2, 6, LOW, HIGH}) {
            b.due("load(" + c + ")", b.gate.load(c), BAD);
        }
        Bench c = bench("12: BAD if c is LOADED").classes(0);
        c.load(0);
        c.due("load(0)", c.gate.load(0), BAD);
        c.load(1);
        c.due("load(1)", c.gate.load(1), BAD);
        c.due("load(0)", c.gate.load(0), BAD);
        Bench d = bench("12: NOT_READY if its SUPER is not LOADED").classes(0, 1, 0);
        d.due("load(1)", d.gate.load(1), NOT_READY);
        d.due("load(2)", d.gate.load(2), NOT_READY);
        d.load(0, 3);
        d.due("the SUPER of its SUPER is not enough", d.gate.load(2), NOT_READY);
        d.load(1, 2);
        // BAD and NOT_READY can't apply at once: what is LOADED has a SUPER that is, and what is no CLASS has none.
        Bench e = bench("12, order: NOT_READY before an ERROR").classes(0);
        e.gate.method(1, 0, true);
        e.due("load(1)", e.gate.load(1), NOT_READY);
        e.load(0);
        e.due("load(1)", e.gate.load(1), EMPTY);
        Bench f = bench("12: for each one VARIANCE first, then as by check").classes(0);
        f.more(f.gate.method(0, 0, false), "give");
        f.gate.method(1, 0, true);
        f.load(0);
        f.due("VARIANCE and EMPTY at once", f.gate.load(1), VARIANCE);
        Bench g = bench("12: VARIANCE first, then OUTSIDE, or that of an INSTRUCTION").classes(0);
        g.more(g.gate.method(0, 0, true), "give");
        g.more(g.gate.method(0, 1, true), "give");
        g.gate.builtIn(g.gate.method(1, 1, false), 0);
        g.more(g.gate.method(1, 0, false), "pop; give");
        g.due("OUTSIDE by check", g.gate.check(2), OUTSIDE);
        g.due("STACK by check", g.gate.check(3), STACK);
        g.load(0);
        g.due("VARIANCE by load", g.gate.load(1), VARIANCE);
        g.due("of the first one", g.gate.place(), 32 * 2 + 31);
        loadByNumbers();
    }

    private void loadByNumbers() {
        Bench b = bench("12: looked through by numbers up to it").classes(0);
        b.more(b.gate.method(0, 0, false), "give");
        b.more(b.gate.method(1, 1, true), "give; pop");
        b.more(b.gate.method(1, 2, true), "number 1; pop; pop; give");
        b.gate.method(1, 0, true);
        b.gate.method(1, 3, true);
        b.load(0);
        b.due("an ERROR before VARIANCE of a later one", b.gate.load(1), STACK);
        b.due("place()", b.gate.place(), 32 * 2 + 2);
        b.due("up to it: its FRAMES", b.gate.frame(1, -1, 0), 1);
        b.due("it is not LOADED", b.gate.isLoaded(1), false);
        Bench c = bench("12: the METHODS of CLASS c, not those of others").classes(0);
        c.more(c.gate.method(1, 0, true), "pop; give");
        c.more(c.gate.method(0, 0, true), "give");
        c.load(0);
        c.due("load(1)", c.gate.load(1), VARIANCE);
        Bench d = bench("12: a CLASS without METHODS");
        d.load(0);
        Bench e = bench("12: then c is not LOADED, and can be mended");
        e.plain(0);
        e.due("load(0)", e.gate.load(0), EMPTY);
        e.due("isLoaded(0)", e.gate.isLoaded(0), false);
        e.more(0, "give");
        e.load(0);
        e.due("isLoaded(0)", e.gate.isLoaded(0), true);
        Bench f = bench("12: METHODS 0 and 9 are looked through").classes(0);
        for (int m = 0; m < 10; m++) {
            f.gate.method(m % 2, m / 2, true);
            if (m != 0 && m != 8) {
                f.more(m, "give");
            }
        }
        f.due("load(0)", f.gate.load(0), EMPTY);
        f.due("METHOD 0", f.gate.place(), 31);
        f.more(0, "give");
        f.due("load(0)", f.gate.load(0), EMPTY);
        f.due("METHOD 8, the last of CLASS 0", f.gate.place(), 32 * 8 + 31);
    }

    // ---- promise 13

    private void isLoaded() {
        Bench b = bench("13: false if there is none");
        for (int c : new int[] {-1, 1, 5, 6, LOW, HIGH}) {
            b.due("isLoaded(" + c + ")", b.gate.isLoaded(c), false);
        }
        b.load(0);
        b.due("isLoaded(0)", b.gate.isLoaded(0), true);
        for (int c : new int[] {-1, 1, 5, 6, LOW, HIGH}) {
            b.due("isLoaded(" + c + ")", b.gate.isLoaded(c), false);
        }
        Bench c = bench("13: Whether CLASS c is LOADED: each one by itself").classes(0, 0, 0, 0, 0);
        c.load(0, 5, 3);
        for (int d = 0; d <= 5; d++) {
            c.due("isLoaded(" + d + ")", c.gate.isLoaded(d), d == 0 || d == 3 || d == 5);
        }
    }

    // ---- promise 14

    private void place() {
        Bench b = bench("14: 32 times the METHOD and the INSTRUCTION of the ERROR").classes(0);
        for (int m = 0; m < 10; m++) {
            b.gate.method(m / 5, m % 5, true);
        }
        b.error(0, "pop; give", STACK, 0);
        b.error(9, "pop; give", STACK, 0);
        b.error(9, "go 19; " + NINETEEN.substring(6) + "pop", WAY, 19);
        b.due("the highest", b.gate.place(), 307);
        Bench c = bench("14: or 32 times the METHOD and 31 for ERRORS 8 to 10").classes(0);
        c.plain(0);
        c.plain(1);
        c.due("EMPTY", c.gate.check(1), EMPTY);
        c.due("place()", c.gate.place(), 63);
        c.gate.builtIn(1, 0);
        c.due("OUTSIDE", c.gate.check(1), OUTSIDE);
        c.due("place()", c.gate.place(), 63);
        c.gate.result(1, -1, false, 0);
        c.more(0, "give");
        c.gate.method(1, 0, true);
        c.load(0);
        c.due("VARIANCE", c.gate.load(1), VARIANCE);
        c.due("place()", c.gate.place(), 95);
        Bench d = bench("14: -1 if it answered 0, or there was none");
        d.due("none", d.gate.place(), -1);
        d.plain(0);
        d.due("still none", d.gate.place(), -1);
        d.error(0, "pop; give", STACK, 0);
        d.fine(0, "give");
        d.gate.wipe(0);
        d.due("EMPTY by load", d.gate.load(0), EMPTY);
        d.due("place()", d.gate.place(), 31);
        d.more(0, "give");
        d.load(0);
        d.due("a load that answered 0", d.gate.place(), -1);
        placeOfTheLatest();
    }

    private void placeOfTheLatest() {
        Bench b = bench("14: Of the latest check or load that was not BAD or NOT_READY").classes(0);
        b.plain(0);
        b.error(0, "number 1; pop; pop; give", STACK, 2);
        b.due("a check that is BAD", b.gate.check(1), BAD);
        b.due("place()", b.gate.place(), 2);
        b.due("a load that is BAD", b.gate.load(2), BAD);
        b.due("place()", b.gate.place(), 2);
        b.due("a load that is NOT_READY", b.gate.load(1), NOT_READY);
        b.due("place()", b.gate.place(), 2);
        b.code(0, "give");
        b.due("what is made later does not matter", b.gate.place(), 2);
        b.load(0);
        b.due("place()", b.gate.place(), -1);
        b.due("a load that is BAD, since it is LOADED", b.gate.load(0), BAD);
        b.due("place()", b.gate.place(), -1);
    }

    // ---- promise 15

    private void frame() {
        Bench b = bench("15: BAD for other numbers");
        b.plain(0);
        b.fine(0, "number 1; number 1; number 1; number 1; give");
        for (int i : new int[] {-1, 5, 19, 20, LOW, HIGH}) {
            b.due("i " + i + " height", b.gate.frame(i, -1, 0), -1);
            b.due("i " + i + " site", b.gate.frame(i, -1, 1), BAD);
            b.due("i " + i + " local", b.gate.frame(i, 0, 0), BAD);
            b.due("i " + i + " stack", b.gate.frame(i, 6, 0), BAD);
        }
        for (int slot : new int[] {-2, 10, 11, LOW, HIGH}) {
            for (int what = 0; what <= 4; what++) {
                b.due("slot " + slot + " what " + what, b.gate.frame(4, slot, what), BAD);
            }
        }
        for (int what : new int[] {-1, 5, LOW, HIGH}) {
            b.due("local, what " + what, b.gate.frame(4, 5, what), BAD);
            b.due("stack, what " + what, b.gate.frame(4, 9, what), BAD);
        }
        for (int what : new int[] {-1, 3, 4, LOW, HIGH}) {
            b.due("slot -1, what " + what, b.gate.frame(4, -1, what), BAD);
        }
        Bench c = bench("15: BAD if there is no such VALUE");
        c.plain(0);
        c.fine(0, "number 1; number 1; number 1; number 1; give");
        for (int height = 0; height <= 4; height++) {
            for (int slot = 6; slot <= 9; slot++) {
                c.due("slot " + slot + " at height " + height, c.gate.frame(height, slot, 0), slot - 6 < height ? Bench.INT : BAD);
            }
            c.due("LOCAL 5 is always there", c.gate.frame(height, 5, 0), Bench.ANY);
            c.due("height", c.gate.frame(height, -1, 0), height);
        }
        Bench d = bench("15: its CLASS (-1 for others than REF and RAW), its ORIGIN (-1: none), the SITE (-1: none)").classes(0);
        d.plain(0);
        d.gate.param(0, 1, true, 0);
        d.fine(0, "load 1; null; load 0; new 1; give");
        int[] classes = {-1, -1, 1, 1};
        int[] origins = {1, -1, 0, -1};
        for (int s = 0; s < 4; s++) {
            d.due("CLASS in slot " + (6 + s), d.gate.frame(4, 6 + s, 1), classes[s]);
            d.due("ORIGIN in slot " + (6 + s), d.gate.frame(4, 6 + s, 4), origins[s]);
        }
        d.due("no SITE", d.gate.frame(3, -1, 1), -1);
        d.due("the SITE", d.gate.frame(4, -1, 1), 3);
        frameOfClash();
    }

    private void frameOfClash() {
        Bench b = bench("15: BAD if its FRAME is CLASH (but with slot -1 and what 0: -2 for CLASH)");
        b.plain(0);
        b.error(0, "number 1; go 0", CLASH, 0);
        for (int slot = -2; slot <= 10; slot++) {
            for (int what = -1; what <= 5; what++) {
                b.due("slot " + slot + " what " + what, b.gate.frame(0, slot, what), slot == -1 && what == 0 ? -2 : BAD);
            }
        }
        Bench c = bench("15: BAD if the INSTRUCTION is not REACHED (but with slot -1 and what 0: -1 if it is not REACHED or not there)");
        c.plain(0);
        c.fine(0, "give; give");
        for (int slot = -2; slot <= 10; slot++) {
            for (int what = -1; what <= 5; what++) {
                c.due("not REACHED, slot " + slot + " what " + what, c.gate.frame(1, slot, what), BAD);
                c.due("not there, slot " + slot + " what " + what, c.gate.frame(2, slot, what), BAD);
            }
        }
        Bench d = bench("15: what 2: 1 if it may be null, else 0; what 3: its MARKS; the sum of 2^f for FIELDS f that are SET");
        for (int f = 0; f < 12; f++) {
            d.gate.field(0, -1, false, 0);
        }
        d.plain(0);
        d.gate.param(0, 0, true, 15);
        d.gate.param(0, 0, false, 8);
        d.fine(0, "new 0; store 5; load 5; number 1; put 11; load 5; number 1; put 1; give");
        d.value(0, 0, Bench.REF, 0, true, 15, -1);
        d.value(0, 1, Bench.REF, 0, false, 8, -1);
        d.due("none SET", d.gate.frame(2, -1, 2), 0);
        d.due("FIELD 11", d.gate.frame(5, -1, 2), 2048);
        d.due("FIELDS 11 and 1", d.gate.frame(8, -1, 2), 2050);
    }

    private void frameOfTheLastLook() {
        Bench b = bench("15: Of the METHOD that was looked through last, as it was then; for RAW that of the NEW as it was then").classes(0);
        b.plain(0);
        b.plain(1);
        b.fine(0, "new 1; give");
        b.code(0, "new 0; pop; number 1; give");
        b.value(1, 6, Bench.RAW, 1, false, 0, -1);
        b.whole(1, 1, 0, 0);
        b.due("what was not there then", b.gate.frame(2, -1, 0), -1);
        b.gate.wipe(0);
        b.value(1, 6, Bench.RAW, 1, false, 0, -1);
        b.gate.param(0, 0, true, 15);
        b.value(0, 0, Bench.ANY, -1, false, 0, -1);
        b.due("a check that is BAD", b.gate.check(2), BAD);
        b.whole(1, 1, 0, 0);
        b.due("a load that is NOT_READY", b.gate.load(1), NOT_READY);
        b.whole(1, 1, 0, 0);
        b.due("METHOD 1 is EMPTY", b.gate.check(1), EMPTY);
        b.due("so nothing is REACHED", b.gate.frame(0, -1, 0), -1);
        Bench c = bench("15: one with VARIANCE is not looked through").classes(0);
        c.more(c.gate.method(0, 0, true), "number 1; give");
        c.more(c.gate.method(1, 0, true), "null; null; give");
        c.load(0);
        c.due("VARIANCE", c.gate.load(1), VARIANCE);
        c.whole(1, 1, -1, 0);
        c.due("by check it is", c.gate.check(1), 0);
        c.whole(2, 2, -1, 0);
        Bench d = bench("15: A BUILT-IN METHOD reaches none");
        d.plain(0);
        d.plain(1);
        d.gate.result(1, -1, false, 0);
        d.more(1, "number 1; give");
        d.gate.builtIn(1, 0);
        d.fine(0, "give");
        d.due("BUILT-IN", d.gate.check(1), 0);
        d.due("nothing is REACHED", d.gate.frame(0, -1, 0), -1);
        d.fine(0, "give");
        d.gate.result(1, -2, false, 0);
        d.due("BUILT-IN and OUTSIDE", d.gate.check(1), OUTSIDE);
        d.due("nothing is REACHED", d.gate.frame(0, -1, 0), -1);
        Bench e = bench("15: looked through last by load: the last METHOD of the CLASS");
        e.plain(0);
        e.plain(1);
        e.more(0, "number 1; pop; give");
        e.more(1, "null; null; give");
        e.load(0);
        e.whole(2, 2, -1, 0);
        Bench f = bench("15: a load of a CLASS without METHODS looks nothing through").classes(0);
        f.plain(0);
        f.fine(0, "null; give");
        f.load(0, 1);
        f.whole(1, 1, -1, 0);
    }
}
