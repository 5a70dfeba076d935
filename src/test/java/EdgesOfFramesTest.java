/** The section "Terms" up to the INSTRUCTIONS: what is known in front of each; a sentence is its bench's title. */
public final class EdgesOfFramesTest {
    private static final int CLASH = QualifierGate.CLASH, STACK = QualifierGate.STACK, KIND = QualifierGate.KIND,
        NULL = QualifierGate.NULL, RAW = QualifierGate.RAW;
    private static final int S = Bench.STACK;
    private static final String FOUR = "number 1; number 1; number 1; number 1; ";
    private final Report report = new Report();

    public static void main(String[] args) {
        new EdgesOfFramesTest().all();
    }

    private void all() {
        begin();
        joinValues();
        joinFrames();
        reached();
        stackOfFour();
        localsAndOrigins();
        building();
        objects();
        calls();
        nullTests();
        guards();
        clashOnAllWays();
        report.end();
    }

    private Bench bench(String sentence) {
        return new Bench(report, sentence);
    }

    // ---- what a method begins with

    private void begin() {
        Bench b = bench("A METHOD begins at INSTRUCTION 0 with an empty stack, no SITE");
        b.plain(0);
        b.fine(0, "give");
        b.whole(0, 0, -1, 0);
        Bench c = bench("LOCAL 0, if it is not STATIC, has REF with its CLASS, not null, without MARKS").classes(0, 1);
        c.gate.method(2, 0, false);
        c.fine(0, "give");
        c.value(0, 0, Bench.REF, 2, false, 0, -1);
        Bench d = bench("if it is STATIC LOCAL 0 is as the others").classes(0);
        d.gate.method(1, 0, true);
        d.fine(0, "give");
        for (int local = 0; local <= 5; local++) {
            d.value(0, local, Bench.ANY, -1, false, 0, -1);
        }
        for (boolean isStatic : new boolean[] {true, false}) {
            for (int params = 0; params <= 3; params++) {
                beginWithParameters(isStatic, params);
            }
        }
        Bench e = bench("INT (not null): for INTS that does not matter anywhere");
        e.plain(0);
        e.gate.param(0, -1, true, 9);
        e.fine(0, "give");
        e.value(0, 0, Bench.INT, -1, false, 9, -1);
        beginAnew();
    }

    private void beginWithParameters(boolean isStatic, int params) {
        Bench b = bench("the next LOCALS have the PARAMETERS, " + params + " of them; the others have ANY").classes(0);
        b.gate.method(1, 0, isStatic);
        int first = isStatic ? 0 : 1;
        for (int p = 0; p < params; p++) {
            b.gate.param(0, p - 1, p == 1, 5 + p);
        }
        b.fine(0, "give");
        for (int p = 0; p < params; p++) {
            b.value(0, first + p, p == 0 ? Bench.INT : Bench.REF, p - 1, p == 1, 5 + p, -1);
        }
        for (int local = first + params; local <= 5; local++) {
            b.value(0, local, Bench.ANY, -1, false, 0, -1);
        }
    }

    /** What an earlier look left behind must not be there any more. */
    private void beginAnew() {
        Bench b = bench("the others have ANY, not null, without MARKS, whatever was looked through before");
        b.gate.field(0, -1, false, 0);
        b.plain(0);
        b.gate.param(0, 0, true, 15);
        b.fine(0, "new 0; store 5; load 0; store 1; load 0; store 2; load 5; number 1; put 0; load 0; isnull 0; go 0");
        b.value(0, 1, Bench.ANY, -1, true, 15, -1);
        b.gate.method(0, 1, false);
        b.fine(1, "give");
        b.whole(0, 0, -1, 0);
        b.value(0, 0, Bench.REF, 0, false, 0, -1);
        for (int local = 1; local <= 5; local++) {
            b.value(0, local, Bench.ANY, -1, false, 0, -1);
        }
        b.due("nothing else is REACHED", b.gate.frame(1, -1, 0), -1);
        b.plain(2);
        b.fine(2, "give");
        b.value(0, 0, Bench.ANY, -1, false, 0, -1);
        // A frame at 0 with a site and a field that is set is what the next look must forget.
        b.fine(0, "new 0; go 2; dup; number 1; put 0; go 2");
        b.whole(2, 1, 0, 0);
        b.fine(1, "go 2; go 3; go 1; give");
        b.whole(2, 0, -1, 0);
    }

    // ---- joining values

    private static final String[] VALUES = {"load 5", "number 1", "null", "load 1", "load 2", "load 4"};
    private static final int[] KINDS = {Bench.ANY, Bench.INT, Bench.NULL, Bench.REF, Bench.REF, Bench.RAW};
    private static final int[] CLASSES = {-1, -1, -1, 1, 2, 0};

    private void joinValues() {
        for (int v = 0; v < VALUES.length; v++) {
            Bench b = bench("JOINING two VALUES: the KIND").classes(0, 0);
            b.plain(0);
            b.gate.param(0, -1, false, 0);
            b.gate.param(0, 1, false, 0);
            b.gate.param(0, 2, false, 0);
            for (int w = 0; w < VALUES.length; w++) {
                b.fine(0, "new 0; store 4; load 0; zero 6; " + VALUES[v] + "; go 7; " + VALUES[w] + "; give");
                joinedKind(b, v, w);
                boolean sameLocal = v == w && VALUES[v].startsWith("load");
                b.due("ORIGIN of " + VALUES[v] + " and " + VALUES[w], b.gate.frame(7, S, 4),
                    sameLocal ? VALUES[v].charAt(5) - '0' : -1);
            }
        }
        joinedClasses();
        joinedNull();
        joinedFullStacks();
        joinedMarks();
        joinedOrigin();
    }

    private static void joinedKind(Bench b, int v, int w) {
        int kind = Bench.ANY;
        int c = -1;
        if (v == w) {
            kind = KINDS[v];
            c = CLASSES[v];
        } else if (KINDS[v] == Bench.REF && KINDS[w] == Bench.REF) {
            kind = Bench.REF;
            c = 0;
        } else if (KINDS[v] == Bench.REF && KINDS[w] == Bench.NULL || KINDS[v] == Bench.NULL && KINDS[w] == Bench.REF) {
            kind = Bench.REF;
            c = Math.max(CLASSES[v], CLASSES[w]);
        }
        b.due("KIND of " + VALUES[v] + " and " + VALUES[w], b.gate.frame(7, S, 0), kind);
        b.due("CLASS of " + VALUES[v] + " and " + VALUES[w], b.gate.frame(7, S, 1), c);
    }

    private void joinedClasses() {
        // 1 and 5 below 0, 2 and 3 below 1, 4 below 2.
        int[][] due = {{0, 1, 0}, {1, 1, 1}, {1, 2, 1}, {2, 3, 1}, {4, 3, 1}, {2, 4, 2}, {4, 4, 4}, {5, 4, 0}, {5, 5, 5}, {5, 0, 0}};
        for (int[] d : due) {
            for (int turn = 0; turn < 2; turn++) {
                Bench b = bench("REF e, with e the CLASS that both are BELOW and that is BELOW all others such").classes(0, 1, 1, 2, 0);
                b.plain(0);
                b.gate.param(0, -1, false, 0);
                b.gate.param(0, d[turn], false, 0);
                b.gate.param(0, d[1 - turn], false, 0);
                b.fine(0, "load 0; zero 4; load 1; go 5; load 2; give");
                b.value(5, S, Bench.REF, d[2], false, 0, -1);
            }
        }
    }

    private void joinedNull() {
        for (int may = 0; may < 4; may++) {
            Bench b = bench("It may be null if one may");
            b.plain(0);
            b.gate.param(0, -1, false, 0);
            b.gate.param(0, 0, (may & 1) != 0, 0);
            b.gate.param(0, 0, (may & 2) != 0, 0);
            b.fine(0, "load 0; zero 4; load 1; go 5; load 2; give");
            b.value(5, S, Bench.REF, 0, may != 0, 0, -1);
        }
        Bench c = bench("It may be null if one may, though it is ANY");
        c.plain(0);
        c.gate.param(0, -1, false, 0);
        c.fine(0, "load 0; zero 4; null; go 5; number 1; give");
        c.value(5, S, Bench.ANY, -1, true, 0, -1);
        Bench d = bench("It may be null if one may: of NULL and REF neither may");
        d.plain(0);
        d.gate.param(0, 0, false, 0);
        d.fine(0, "load 0; isnull 4; load 0; go 5; load 0; give");
        d.value(4, 0, Bench.NULL, -1, false, 0, -1);
        d.value(5, 0, Bench.REF, 0, false, 0, -1);
        d.value(5, S, Bench.REF, 0, false, 0, 0);
        d.fine(0, "load 0; isnull 3; go 5; load 0; go 6; load 0; give");
        d.value(6, 0, Bench.REF, 0, false, 0, -1);
        d.value(6, S, Bench.REF, 0, false, 0, 0);
    }

    private void joinedFullStacks() {
        Bench b = bench("JOINING two FRAMES: else VALUE by VALUE: six LOCALS and a stack of four").classes(0);
        b.plain(0);
        b.gate.param(0, -1, false, 2);
        b.gate.param(0, 1, true, 1);
        b.gate.param(0, 0, false, 4);
        b.fine(0, "load 0; zero 9; null; store 5; load 0; null; load 1; load 2; go 13; load 0; load 1; number 1; load 1; give");
        b.whole(13, 4, -1, 0);
        b.value(13, S, Bench.INT, -1, false, 2, 0);
        b.value(13, S + 1, Bench.REF, 1, true, 1, -1);
        b.value(13, S + 2, Bench.ANY, -1, true, 1, -1);
        b.value(13, S + 3, Bench.REF, 0, true, 5, -1);
        b.value(13, 5, Bench.ANY, -1, true, 0, -1);
        b.value(13, 0, Bench.INT, -1, false, 2, -1);
    }

    private void joinedMarks() {
        for (int[] m : new int[][] {{0, 0}, {1, 0}, {0, 8}, {5, 10}, {6, 3}, {15, 15}}) {
            Bench b = bench("it has the MARKS of both");
            b.plain(0);
            b.gate.param(0, -1, false, m[0]);
            b.gate.param(0, -1, false, m[1]);
            b.fine(0, "number 0; zero 4; load 0; go 5; load 1; give");
            b.value(5, S, Bench.INT, -1, false, m[0] | m[1], -1);
        }
    }

    private void joinedOrigin() {
        Bench b = bench("the ORIGIN of both if that is the same one, else none");
        b.plain(0);
        b.gate.param(0, 0, true, 1);
        b.gate.param(0, 0, true, 2);
        b.fine(0, "number 0; zero 4; load 0; go 5; load 0; give");
        b.value(5, S, Bench.REF, 0, true, 1, 0);
        b.fine(0, "number 0; zero 4; load 0; go 5; load 1; give");
        b.value(5, S, Bench.REF, 0, true, 3, -1);
        b.fine(0, "number 0; zero 4; load 1; go 5; null; give");
        b.value(5, S, Bench.REF, 0, true, 2, -1);
        // The LOCAL is changed on one way before it is loaded: the ORIGIN is the same one, the VALUE is not.
        b.fine(0, "number 0; zero 6; load 1; store 0; load 0; go 7; load 0; give");
        b.value(7, S, Bench.REF, 0, true, 3, 0);
        b.value(7, 0, Bench.REF, 0, true, 3, -1);
    }

    // ---- joining frames

    private void joinFrames() {
        Bench b = bench("JOINING two FRAMES: CLASH if they have not the same height");
        b.plain(0);
        b.error(0, "number 0; zero 3; number 1; give", CLASH, 3);
        b.due("0 and 1", b.gate.frame(3, -1, 0), -2);
        b.error(0, "number 1; number 1; number 1; number 0; zero 6; number 1; give", CLASH, 6);
        b.due("3 and 4", b.gate.frame(6, -1, 0), -2);
        b.fine(0, "number 1; number 1; number 1; number 0; zero 7; number 1; pop; give");
        b.due("3 and 3", b.gate.frame(7, -1, 0), 3);
        Bench c = bench("JOINING two FRAMES: CLASH if one is CLASH");
        c.plain(0);
        c.error(0, "number 0; zero 4; pop; go 5; go 5; give", STACK, 2);
        c.due("the fine one first", c.gate.frame(4, -1, 0), 0);
        c.due("joined", c.gate.frame(5, -1, 0), -2);
        c.error(0, "number 0; zero 4; number 1; go 5; pop; give", STACK, 4);
        c.due("joined", c.gate.frame(5, -1, 0), -2);
        Bench d = bench("CLASH that comes late goes on to what was looked at before");
        d.plain(0);
        d.gate.param(0, -1, false, 0);
        d.error(0, "go 4; go 2; give; go 7; load 0; zero 1; go 3; load 0; go 1", CLASH, 1);
        d.due("where the heights meet", d.gate.frame(1, -1, 0), -2);
        d.due("behind it", d.gate.frame(2, -1, 0), -2);
        sameSite();
        otherSite();
        late();
    }

    private void sameSite() {
        Bench b = bench("if both have the same SITE, SET are the FIELDS that are so in both");
        b.gate.field(0, -1, false, 0);
        b.gate.field(0, -1, false, 0);
        b.gate.field(0, -1, false, 0);
        b.plain(0);
        b.fine(0, "new 0; store 4; number 0; zero 11; load 4; number 1; put 0; load 4; number 1; put 1; go 17"
            + "; load 4; number 1; put 1; load 4; number 1; put 2; give");
        b.whole(10, 0, 0, 3);
        b.whole(17, 0, 0, 2);
        b.value(17, 4, Bench.RAW, 0, false, 0, -1);
        b.fine(0, "new 0; dup; number 1; put 0; number 0; zero 9; dup; number 1; put 1; go 10; give");
        b.whole(10, 1, 0, 1);
        b.fine(0, "new 0; number 0; zero 6; dup; number 1; put 0; give");
        b.whole(6, 1, 0, 0);
    }

    /**
     * What comes along the shorter way is carried on from 2 to 3 before what comes along the longer one is there;
     * when it is, 3 must get to know of it.
     */
    private void late() {
        Bench b = bench("SET are the FIELDS that are so in both, though one comes late");
        b.gate.field(0, -1, false, 0);
        b.plain(0);
        b.gate.param(0, -1, false, 0);
        b.fine(0, "new 0; go 5; go 3; give; go 12; load 0; zero 4; dup; number 1; put 0; go 2; give; go 2");
        b.whole(10, 1, 0, 1);
        b.whole(2, 1, 0, 0);
        b.whole(3, 1, 0, 0);
        Bench c = bench("no SITE, though the other one comes late, and nothing is RAW");
        c.plain(0);
        c.gate.param(0, -1, false, 0);
        c.fine(0, "go 5; give; go 3; give; go 10; load 0; zero 4; new 0; pop; go 2; go 2");
        c.whole(9, 0, 7, 0);
        c.whole(2, 0, -1, 0);
        c.whole(3, 0, -1, 0);
        Bench d = bench("a VALUE of a LOCAL that comes late");
        d.plain(0);
        d.gate.param(0, -1, false, 0);
        d.fine(0, "go 5; give; go 3; give; go 12; load 0; zero 4; number 1; store 5; go 2; give; give; null; store 5; go 2");
        d.value(9, 5, Bench.INT, -1, false, 0, -1);
        d.value(2, 5, Bench.ANY, -1, true, 0, -1);
        d.value(3, 5, Bench.ANY, -1, true, 0, -1);
        Bench e = bench("a VALUE of the stack that comes late");
        e.plain(0);
        e.gate.param(0, -1, false, 7);
        e.fine(0, "go 5; give; go 3; give; go 10; load 0; zero 4; number 1; go 2; give; load 0; go 2");
        e.value(8, S, Bench.INT, -1, false, 0, -1);
        e.value(2, S, Bench.INT, -1, false, 7, -1);
        e.value(3, S, Bench.INT, -1, false, 7, -1);
    }

    private void otherSite() {
        Bench b = bench("else there is no SITE, nothing is SET, and VALUES that would be RAW are ANY");
        b.gate.field(0, -1, false, 0);
        b.plain(0);
        b.gate.param(0, -1, false, 0);
        b.fine(0, "load 0; zero 7; new 0; dup; number 1; put 0; go 11; new 0; dup; number 1; put 0; give");
        b.whole(6, 1, 2, 1);
        b.whole(11, 1, -1, 0);
        b.value(11, S, Bench.ANY, -1, false, 0, -1);
        b.fine(0, "new 0; store 5; load 5; load 0; zero 8; load 5; number 1; put 0; go 9; built; give");
        b.whole(9, 1, 0, 0);
        b.value(9, S, Bench.RAW, 0, false, 0, 5);
        b.fine(0, "new 0; store 5; load 5; load 0; zero 6; built; go 7; give");
        b.whole(7, 1, -1, 0);
        b.value(7, S, Bench.ANY, -1, false, 0, 5);
        b.value(7, 5, Bench.ANY, -1, false, 0, -1);
        b.fine(0, "load 0; zero 5; new 0; store 5; go 5; give");
        b.whole(5, 0, -1, 0);
        b.value(5, 5, Bench.ANY, -1, false, 0, -1);
        b.fine(0, "load 0; zero 4; new 0; pop; go 5; give");
        b.whole(4, 0, -1, 0);
        b.whole(5, 0, -1, 0);
        Bench c = bench("no SITE, though the other one comes late").classes(0);
        c.plain(0);
        c.gate.param(0, -1, false, 0);
        c.fine(0, "new 0; go 4; dup; go 10; load 0; zero 9; pop; new 0; go 2; go 2; give");
        c.whole(2, 1, -1, 0);
        c.whole(10, 2, -1, 0);
        c.value(10, S + 1, Bench.ANY, -1, false, 0, -1);
    }

    // ---- what is reached

    private void reached() {
        Bench b = bench("one to which nothing comes is not REACHED");
        b.plain(0);
        for (String end : new String[] {"give", "go 0", "new 0; built; fail"}) {
            b.fine(0, end + "; give");
            int last = end.split(";").length;
            b.due("height behind " + end, b.gate.frame(last, -1, 0), -1);
            b.due("site behind " + end, b.gate.frame(last, -1, 1), QualifierGate.BAD);
            b.due("local behind " + end, b.gate.frame(last, 0, 0), QualifierGate.BAD);
        }
        Bench c = bench("for INSTRUCTION 0 what it begins with, too");
        c.plain(0);
        c.gate.param(0, 0, true, 3);
        c.gate.param(0, -1, false, 4);
        c.fine(0, "new 0; built; store 0; number 1; store 3; load 1; zero 0; give");
        c.value(0, 0, Bench.REF, 0, true, 3, -1);
        c.value(0, 3, Bench.ANY, -1, false, 0, -1);
        c.value(5, 0, Bench.REF, 0, false, 0, -1);
        c.error(0, "number 1; go 0", CLASH, 0);
        Bench d = bench("so they are the least FRAMES of this kind");
        d.plain(0);
        d.gate.param(0, 0, false, 0);
        d.fine(0, "load 0; store 0; number 1; zero 0; load 0; fail");
        d.value(0, 0, Bench.REF, 0, false, 0, -1);
        d.value(0, 1, Bench.ANY, -1, false, 0, -1);
        for (int i = 0; i < 6; i++) {
            d.due("not more than comes, at " + i, d.gate.frame(i, 0, 2), 0);
        }
        Bench e = bench("the last of 20 INSTRUCTIONS is REACHED");
        e.plain(0);
        e.fine(0, "go 19; give; give; give; give; give; give; give; give; give; give; give; give; give; give; give; give; give; give; give");
        e.whole(19, 0, -1, 0);
        e.due("those between are not", e.gate.frame(18, -1, 0), -1);
    }

    // ---- the stack

    /** A method 0 with an object in local 0 and what the instructions below need. */
    private Bench withAll(String sentence) {
        Bench b = bench(sentence);
        b.gate.field(0, -1, false, 0);
        b.plain(0);
        b.gate.param(0, 0, false, 0);
        b.plain(1);
        b.gate.param(1, -1, false, 0);
        b.gate.result(1, -1, false, 0);
        b.plain(2);
        b.plain(3);
        b.gate.result(3, -1, false, 0);
        b.gate.method(0, 4, false);
        b.gate.result(4, -1, false, 0);
        return b;
    }

    private void stackOfFour() {
        Bench b = withAll("a fifth VALUE would be on the stack");
        for (String one : new String[] {"number 1", "null", "load 0", "dup", "new 0", "call 3"}) {
            b.error(0, FOUR + one + "; give", STACK, 4);
            b.due("CLASH behind " + one, b.gate.frame(5, -1, 0), -2);
            b.fine(0, FOUR + "pop; " + one + "; give");
            b.due("four behind " + one, b.gate.frame(6, -1, 0), 4);
        }
        Bench c = withAll("a fifth VALUE (after what is popped)");
        heightAfterFour(c, FOUR, "store 1", 3);
        heightAfterFour(c, FOUR, "pop", 3);
        heightAfterFour(c, FOUR, "add", 3);
        heightAfterFour(c, "number 1; number 1; number 1; new 0; ", "built", 4);
        heightAfterFour(c, "number 1; number 1; number 1; load 0; ", "get 0", 4);
        heightAfterFour(c, "number 1; number 1; load 0; number 1; ", "put 0", 2);
        heightAfterFour(c, FOUR, "call 1", 4);
        heightAfterFour(c, FOUR, "call 2", 4);
        heightAfterFour(c, "number 1; number 1; number 1; load 0; ", "call 4", 4);
        heightAfterFour(c, "number 1; number 1; number 1; load 0; ", "cast 0", 4);
        heightAfterFour(c, FOUR, "go 5", 4);
        heightAfterFour(c, FOUR, "zero 5", 3);
        heightAfterFour(c, "number 1; number 1; number 1; load 0; ", "isnull 5", 3);
        Bench d = withAll("GIVE and FAIL with a stack of four");
        d.fine(0, FOUR + "give");
        d.fine(0, "number 1; number 1; number 1; load 0; fail");
        d.gate.result(0, -1, false, 0);
        d.fine(0, FOUR + "give");
        more();
    }

    private static void heightAfterFour(Bench b, String before, String one, int height) {
        b.fine(0, before + one + "; give");
        b.due("height behind " + one, b.gate.frame(5, -1, 0), height);
    }

    private void more() {
        Bench b = withAll("Where more would be popped than there is");
        for (String one : new String[] {"store 1", "pop", "get 0", "call 1", "call 4", "cast 0", "zero 1", "isnull 1", "fail", "add", "put 0"}) {
            b.error(0, one + "; give", STACK, 0);
        }
        b.error(0, "number 1; add; give", STACK, 1);
        b.error(0, "load 0; put 0; give", STACK, 1);
        b.gate.param(4, -1, false, 0);
        b.error(0, "load 0; call 4; give", STACK, 1);
        b.fine(0, "load 0; number 1; call 4; give");
        b.fine(0, "call 2; give");
        Bench c = withAll("DUP and BUILT need a top VALUE, as if they popped it");
        c.error(0, "dup; give", STACK, 0);
        c.error(0, "built; give", STACK, 0);
        c.fine(0, "number 1; dup; give");
        c.fine(0, "new 0; built; give");
        Bench d = withAll("GIVE: pops, if the METHOD has a RESULT");
        d.fine(0, "give");
        d.gate.result(0, -1, false, 0);
        d.error(0, "give", STACK, 0);
        d.fine(0, "number 1; give");
    }

    // ---- LOAD, STORE, DUP

    private void localsAndOrigins() {
        Bench b = bench("LOAD a: pushes the VALUE of LOCAL a, with ORIGIN a");
        b.gate.method(0, 0, false);
        b.gate.param(0, -1, false, 6);
        for (int local = 0; local <= 5; local++) {
            b.fine(0, "load " + local + "; give");
            int kind = local == 0 ? Bench.REF : local == 1 ? Bench.INT : Bench.ANY;
            b.value(1, S, kind, local == 0 ? 0 : -1, false, local == 1 ? 6 : 0, local);
        }
        Bench c = bench("STORE a: LOCAL a has this VALUE, and no ORIGIN");
        c.plain(0);
        c.gate.param(0, 0, true, 6);
        for (int local = 0; local <= 5; local++) {
            c.fine(0, "load 0; store " + local + "; give");
            c.value(2, local, Bench.REF, 0, true, 6, -1);
            c.due("popped", c.gate.frame(2, -1, 0), 0);
        }
        Bench d = bench("STORE a: VALUES on the stack with ORIGIN a have none then");
        d.plain(0);
        d.gate.param(0, 0, true, 6);
        d.fine(0, "load 0; load 5; load 0; load 0; store 5; give");
        d.value(5, S, Bench.REF, 0, true, 6, 0);
        d.value(5, S + 1, Bench.ANY, -1, false, 0, -1);
        d.value(5, S + 2, Bench.REF, 0, true, 6, 0);
        d.fine(0, "load 0; load 5; load 0; load 0; store 0; give");
        d.value(5, S, Bench.REF, 0, true, 6, -1);
        d.value(5, S + 1, Bench.ANY, -1, false, 0, 5);
        d.value(5, S + 2, Bench.REF, 0, true, 6, -1);
        Bench e = bench("DUP: pushes the top VALUE once more: with its ORIGIN");
        e.plain(0);
        e.gate.param(0, 0, true, 6);
        e.fine(0, "load 0; dup; number 1; dup; give");
        e.value(4, S + 1, Bench.REF, 0, true, 6, 0);
        e.value(4, S + 3, Bench.INT, -1, false, 0, -1);
        Bench f = bench("VALUES that they push have no ORIGIN, but for LOAD and DUP");
        f.gate.field(0, -1, false, 0);
        f.plain(0);
        f.gate.param(0, 0, false, 0);
        f.gate.param(0, -1, false, 0);
        f.plain(1);
        f.gate.param(1, -1, false, 0);
        f.gate.result(1, -1, false, 0);
        for (String one : new String[] {"load 1; load 1; add", "load 0; get 0", "load 1; call 1", "load 0; cast 0", "number 0", "null", "new 0"}) {
            f.fine(0, one + "; give");
            f.due("ORIGIN of " + one, f.gate.frame(one.split(";").length, S, 4), -1);
        }
    }

    // ---- NEW and BUILT

    private void building() {
        Bench b = bench("NEW a: VALUES that are RAW become ANY; this is the SITE then, nothing is SET").classes(0);
        b.gate.field(0, -1, false, 0);
        b.plain(0);
        b.fine(0, "new 0; dup; store 0; store 5; load 5; number 1; put 0; load 5; load 5; load 5; new 1; give");
        b.whole(10, 3, 0, 1);
        b.whole(11, 4, 10, 0);
        b.value(11, 0, Bench.ANY, -1, false, 0, -1);
        b.value(11, 5, Bench.ANY, -1, false, 0, -1);
        for (int slot = S; slot < S + 3; slot++) {
            b.value(11, slot, Bench.ANY, -1, false, 0, 5);
        }
        b.value(11, S + 3, Bench.RAW, 1, false, 0, -1);
        Bench c = bench("NEW a: not null, without MARKS; VALUES that are not RAW stay").classes(0);
        c.plain(0);
        c.gate.param(0, 0, true, 15);
        c.fine(0, "load 0; null; number 1; new 1; give");
        c.value(4, 0, Bench.REF, 0, true, 15, -1);
        c.value(4, S, Bench.REF, 0, true, 15, 0);
        c.value(4, S + 1, Bench.NULL, -1, true, 0, -1);
        c.value(4, S + 2, Bench.INT, -1, false, 0, -1);
        c.value(4, S + 3, Bench.RAW, 1, false, 0, -1);
        Bench d = bench("the SITE is the number of a NEW: 0 is one, and 19, too");
        d.plain(0);
        d.fine(0, "new 0; give");
        d.whole(1, 1, 0, 0);
        d.error(0, "give; give; give; give; give; give; give; give; give; give; give; give; give; give; give; give; give; give; give; new 0", 0, 0);
        d.error(0, "go 19; give; give; give; give; give; give; give; give; give; give; give; give; give; give; give; give; give; give; new 0",
            QualifierGate.WAY, 19);
        built();
    }

    private void built() {
        Bench b = bench("BUILT: if the top VALUE is RAW all that are RAW become REF of their CLASS; there is no SITE then, nothing is SET")
            .classes(0);
        b.gate.field(0, -1, false, 0);
        b.plain(0);
        b.fine(0, "new 1; dup; store 0; store 5; load 5; load 5; load 5; load 5; built; give");
        b.whole(8, 4, 0, 0);
        b.whole(9, 4, -1, 0);
        b.value(9, 0, Bench.REF, 1, false, 0, -1);
        b.value(9, 5, Bench.REF, 1, false, 0, -1);
        for (int slot = S; slot < S + 4; slot++) {
            b.value(9, slot, Bench.REF, 1, false, 0, 5);
        }
        b.fine(0, "new 0; dup; number 1; put 0; built; give");
        b.whole(4, 1, 0, 1);
        b.whole(5, 1, -1, 0);
        Bench c = bench("BUILT: else all that are RAW become ANY; there is no SITE then, nothing is SET; nothing is popped").classes(0);
        c.gate.field(0, -1, false, 0);
        c.plain(0);
        c.error(0, "new 1; store 5; load 5; load 5; dup; number 1; put 0; number 1; built; give", KIND, 8);
        c.whole(8, 3, 0, 1);
        c.whole(9, 3, -1, 0);
        c.value(9, 5, Bench.ANY, -1, false, 0, -1);
        c.value(9, S, Bench.ANY, -1, false, 0, 5);
        c.value(9, S + 1, Bench.ANY, -1, false, 0, 5);
        c.value(9, S + 2, Bench.INT, -1, false, 0, -1);
    }

    // ---- GET, PUT, CAST, ADD

    private void objects() {
        Bench b = bench("GET a: null if the FIELD may be so").classes(0);
        b.gate.field(0, 1, true, 9);
        b.gate.field(0, 1, false, 6);
        b.plain(0);
        b.gate.param(0, 0, false, 15);
        b.fine(0, "load 0; get 0; load 0; get 1; give");
        b.value(4, S, Bench.REF, 1, true, 9, -1);
        b.value(4, S + 1, Bench.REF, 1, false, 6, -1);
        Bench c = bench("GET a: null if the SORT is a CLASS and the object is ANY, INT, or RAW without this FIELD SET");
        c.gate.field(0, 0, false, 0);
        c.gate.field(0, -1, true, 5);
        c.gate.field(0, 0, true, 0);
        c.plain(0);
        c.gate.param(0, 0, true, 0);
        getFrom(c, "load 5", KIND, true);
        getFrom(c, "number 1", KIND, true);
        getFrom(c, "new 0", 0, true);
        getFrom(c, "null", NULL, false);
        getFrom(c, "load 0", NULL, false);
        c.fine(0, "new 0; dup; number 1; put 1; get 0; give");
        c.value(5, S, Bench.REF, 0, true, 0, -1);
        c.error(0, "new 0; store 5; load 5; null; put 0; load 5; get 0; give", NULL, 4);
        c.whole(5, 0, 0, 1);
        c.value(7, S, Bench.REF, 0, false, 0, -1);
        c.fine(0, "new 0; store 5; load 5; null; put 2; load 5; get 2; give");
        c.value(7, S, Bench.REF, 0, true, 0, -1);
        putAndCast();
    }

    private static void getFrom(Bench b, String object, int error, boolean may) {
        b.error(0, object + "; get 0; give", error, 1);
        b.value(2, S, Bench.REF, 0, may, 0, -1);
        b.error(0, object + "; get 1; give", error, 1);
        b.value(2, S, Bench.INT, -1, false, 5, -1);
    }

    private void putAndCast() {
        Bench b = bench("PUT a: if the object is RAW FIELD a is SET");
        for (int f = 0; f < 12; f++) {
            b.gate.field(0, -1, false, 0);
        }
        b.plain(0);
        b.gate.param(0, 0, false, 0);
        b.fine(0, "new 0; store 5; load 5; number 1; put 0; load 5; number 1; put 11; load 5; number 1; put 0; give");
        b.whole(2, 0, 0, 0);
        b.whole(5, 0, 0, 1);
        b.whole(8, 0, 0, 2049);
        b.whole(11, 0, 0, 2049);
        b.fine(0, "new 0; load 0; number 1; put 3; give");
        b.whole(4, 1, 0, 0);
        b.error(0, "new 0; number 1; number 1; put 3; give", KIND, 3);
        b.whole(4, 1, 0, 0);
        Bench c = bench("CAST a: pushes REF a, null if what was popped may be, with its MARKS").classes(0, 1);
        c.plain(0);
        c.gate.param(0, 2, true, 5);
        c.gate.param(0, 0, false, 10);
        c.fine(0, "load 0; cast 0; load 1; cast 2; null; cast 1; give");
        c.value(6, S, Bench.REF, 0, true, 5, -1);
        c.value(6, S + 1, Bench.REF, 2, false, 10, -1);
        c.value(6, S + 2, Bench.REF, 1, true, 0, -1);
        c.error(0, "number 1; cast 2; give", KIND, 1);
        c.value(2, S, Bench.REF, 2, false, 0, -1);
        c.error(0, "new 1; cast 2; give", RAW, 1);
        c.value(2, S, Bench.REF, 2, false, 0, -1);
        Bench d = bench("ADD: pushes INT, not null, with the MARKS of both");
        d.plain(0);
        d.gate.param(0, -1, false, 9);
        d.gate.param(0, -1, false, 3);
        d.gate.param(0, 0, true, 4);
        d.fine(0, "load 0; load 1; add; number 1; load 1; add; give");
        d.value(6, S, Bench.INT, -1, false, 11, -1);
        d.value(6, S + 1, Bench.INT, -1, false, 3, -1);
        d.error(0, "load 2; load 1; add; give", KIND, 2);
        d.value(3, S, Bench.INT, -1, false, 7, -1);
    }

    // ---- CALL

    private void calls() {
        Bench b = bench("CALL a: pushes what its RESULT says (as GET, null only if it may be), or nothing").classes(0);
        b.plain(0);
        b.plain(1);
        b.fine(0, "call 1; give");
        b.whole(1, 0, -1, 0);
        b.gate.result(1, -1, true, 12);
        b.fine(0, "call 1; give");
        b.value(1, S, Bench.INT, -1, false, 12, -1);
        b.gate.result(1, 1, false, 3);
        b.fine(0, "call 1; give");
        b.value(1, S, Bench.REF, 1, false, 3, -1);
        b.gate.result(1, 0, true, 0);
        b.fine(0, "call 1; give");
        b.value(1, S, Bench.REF, 0, true, 0, -1);
        int own = b.gate.method(0, 2, false);
        for (int may = 0; may <= 1; may++) {
            b.gate.result(own, 1, may == 1, 9);
            b.fine(0, "new 0; built; call " + own + "; give");
            b.value(3, S, Bench.REF, 1, may == 1, 9, -1);
        }
        Bench c = bench("CALL a: pops the arguments, the last one first, then, if METHOD a is not STATIC, the object");
        c.plain(0);
        for (int name = 1; name <= 4; name++) {
            int m = c.gate.method(0, name, name % 2 == 1);
            for (int p = 0; p < (name < 3 ? 0 : 3); p++) {
                c.gate.param(m, p == 1 ? 0 : -1, true, 0);
            }
        }
        c.fine(0, "number 1; call 1; give");
        c.whole(2, 1, -1, 0);
        c.fine(0, "number 1; new 0; built; call 2; give");
        c.whole(4, 1, -1, 0);
        c.fine(0, "number 1; number 1; null; number 1; call 3; give");
        c.whole(5, 1, -1, 0);
        c.fine(0, "new 0; built; number 1; null; number 1; call 4; give");
        c.whole(6, 0, -1, 0);
        c.error(0, "new 0; built; null; number 1; number 1; call 4; give", KIND, 5);
        Bench d = bench("CALL: LOCALS, SITE and SET FIELDS stay");
        d.gate.field(0, -1, false, 0);
        d.plain(0);
        d.plain(1);
        d.fine(0, "new 0; store 3; load 3; number 1; put 0; call 1; give");
        d.whole(6, 0, 0, 1);
        d.value(6, 3, Bench.RAW, 0, false, 0, -1);
    }

    // ---- ISNULL, ZERO

    private void nullTests() {
        Bench b = bench("ISNULL a: on the WAY to a the LOCAL that is its ORIGIN has KIND NULL if it was REF; to the next one it is not null")
            .classes(0);
        b.plain(0);
        b.gate.param(0, 1, true, 7);
        b.fine(0, "load 0; isnull 3; give; give");
        b.value(2, 0, Bench.REF, 1, false, 7, -1);
        b.value(3, 0, Bench.NULL, -1, true, 7, -1);
        b.gate.param(0, 1, false, 7);
        b.fine(0, "load 1; isnull 3; give; give");
        b.value(2, 1, Bench.REF, 1, false, 7, -1);
        b.value(3, 1, Bench.NULL, -1, false, 7, -1);
        b.value(3, 0, Bench.REF, 1, true, 7, -1);
        Bench c = bench("ISNULL a: else it stays; whether it may be null stays");
        c.plain(0);
        c.gate.param(0, -1, false, 1);
        c.fine(0, "null; store 5; load 5; isnull 5; give; give");
        c.value(4, 5, Bench.NULL, -1, false, 0, -1);
        c.value(5, 5, Bench.NULL, -1, true, 0, -1);
        c.error(0, "load 0; isnull 3; give; give", KIND, 1);
        c.value(3, 0, Bench.INT, -1, false, 1, -1);
        c.error(0, "load 5; isnull 3; give; give", KIND, 1);
        c.value(3, 5, Bench.ANY, -1, false, 0, -1);
        c.error(0, "new 0; store 5; load 5; isnull 5; give; give", RAW, 3);
        c.value(4, 5, Bench.RAW, 0, false, 0, -1);
        c.value(5, 5, Bench.RAW, 0, false, 0, -1);
        c.error(0, "load 0; zero 4; null; go 5; number 1; store 5; load 5; isnull 9; give; give", KIND, 7);
        c.value(7, 5, Bench.ANY, -1, true, 0, -1);
        c.value(8, 5, Bench.ANY, -1, false, 0, -1);
        c.value(9, 5, Bench.ANY, -1, true, 0, -1);
        Bench d = bench("ISNULL a: without an ORIGIN no LOCAL changes");
        d.plain(0);
        d.gate.param(0, 0, true, 0);
        d.fine(0, "load 0; cast 0; isnull 4; give; give");
        d.value(3, 0, Bench.REF, 0, true, 0, -1);
        d.value(4, 0, Bench.REF, 0, true, 0, -1);
        d.fine(0, "load 0; load 0; store 0; isnull 5; give; give");
        d.value(4, 0, Bench.REF, 0, true, 0, -1);
        d.value(5, 0, Bench.REF, 0, true, 0, -1);
        Bench e = bench("ISNULL a, ZERO a: WAYS lead to a and to the next one, which may be the same one");
        e.plain(0);
        e.gate.param(0, 0, true, 0);
        e.fine(0, "load 0; isnull 2; give");
        e.value(2, 0, Bench.REF, 0, true, 0, -1);
        e.whole(2, 0, -1, 0);
        e.fine(0, "number 0; zero 2; give");
        e.whole(2, 0, -1, 0);
        e.fine(0, "number 1; zero 4; number 1; give; give");
        e.whole(2, 0, -1, 0);
        e.whole(4, 0, -1, 0);
        e.fine(0, "number 1; zero 0; give");
    }

    // ---- guards

    private void guards() {
        for (int from = 0; from <= 4; from++) {
            for (int to = from; to <= 4; to++) {
                Bench b = bench("an INSTRUCTION i is guarded by one with from <= i <= to, " + from + ".." + to);
                b.plain(0);
                b.more(0, "number 1; null; cast 0; give; give");
                b.gate.guard(0, from, to, 4);
                b.due("check", b.gate.check(0), 0);
                b.due("the CAST at 2 is guarded", b.gate.frame(4, -1, 0), from <= 2 && to >= 2 ? 1 : -1);
            }
        }
        Bench c = bench("an INSTRUCTION is guarded from the first to the last that can be");
        c.plain(0);
        c.more(0, "call 0; go 3; give; new 0; built; fail; give");
        c.gate.guard(0, 0, 0, 6);
        c.gate.guard(0, 5, 19, 2);
        c.due("check", c.gate.check(0), 0);
        c.due("0 is guarded", c.gate.frame(6, -1, 0), 1);
        c.due("5 is guarded", c.gate.frame(2, -1, 0), 1);
        Bench d = bench("an INSTRUCTION i is guarded by the first one");
        d.plain(0);
        d.more(0, "null; cast 0; cast 0; give; give; give");
        d.gate.guard(0, 1, 1, 4);
        d.gate.guard(0, 0, 19, 5);
        d.due("check", d.gate.check(0), 0);
        d.due("1 by the first", d.gate.frame(4, -1, 0), 1);
        d.due("2 by the second", d.gate.frame(5, -1, 0), 1);
        d.code(0, "null; cast 0; cast 0; give; give; give");
        d.gate.guard(0, 0, 19, 5);
        d.gate.guard(0, 1, 1, 4);
        d.due("check", d.gate.check(0), 0);
        d.due("by the second none", d.gate.frame(4, -1, 0), -1);
        guardedOnes();
        guardedBuiltIns();
        guardFrames();
    }

    private void guardedOnes() {
        Bench b = withAll("From a CALL, CAST or FAIL that is guarded a WAY leads to the at of its GUARD, too, and from no other");
        String[] before = {"", "", "", "number 1", "number 1", "number 1", "number 1; number 1", "", "new 0", "load 0", "load 0; number 1",
            "", "null", "", "number 1", "null", "", "load 0"};
        String[] ones = {"number 1", "null", "load 0", "store 1", "dup", "pop", "add", "new 0", "built", "get 0", "put 0", "call 2", "cast 0",
            "go 3", "zero 3", "isnull 3", "give", "fail"};
        for (int op = 0; op < ones.length; op++) {
            // In front of it come exactly two instructions, so that it is number 2.
            String first = before[op].isEmpty() ? "number 1; pop; " : before[op].contains(";") ? before[op] + "; " : "go 1; " + before[op] + "; ";
            b.code(0, first + ones[op] + "; give; give");
            b.gate.guard(0, 2, 2, 4);
            b.due("check of " + ones[op], b.gate.check(0), 0);
            boolean throwing = op == 11 || op == 12 || op == 17;
            b.due("height at the GUARD of " + ones[op], b.gate.frame(4, -1, 0), throwing ? 1 : -1);
        }
    }

    private void guardedBuiltIns() {
        for (int kind = -1; kind <= 2; kind++) {
            Bench b = bench("From a CALL that is guarded a WAY leads to the at of its GUARD, too, BUILT-IN or not: " + kind);
            b.plain(0);
            b.plain(1);
            b.gate.builtIn(1, kind);
            b.code(0, "call 1; give; give");
            b.gate.guard(0, 0, 0, 2);
            b.due("check", b.gate.check(0), 0);
            b.whole(2, 1, -1, 0);
            b.code(0, "call 1; give");
            b.gate.guard(0, 0, 0, 2);
            b.due("an at that is not there", b.gate.check(0), QualifierGate.WAY);
        }
    }

    private void guardFrames() {
        Bench b = bench("with the LOCALS, SITE and SET FIELDS as in front of it, and a stack of one VALUE, REF 0, not null, without MARKS")
            .classes(0);
        b.gate.field(0, -1, false, 0);
        b.plain(0);
        b.gate.param(0, 1, true, 0);
        b.plain(1);
        b.gate.param(1, 0, true, 0);
        b.gate.result(1, 1, true, 15);
        b.code(0, "new 1; store 5; load 5; number 1; put 0; number 1; number 1; load 0; call 1; store 0; give; give");
        b.gate.guard(0, 8, 8, 11);
        b.due("check", b.gate.check(0), 0);
        b.whole(11, 1, 0, 1);
        b.value(11, S, Bench.REF, 0, false, 0, -1);
        b.value(11, 0, Bench.REF, 1, true, 0, -1);
        b.value(11, 5, Bench.RAW, 1, false, 0, -1);
        b.code(0, "number 1; number 1; number 1; load 0; cast 0; give; give");
        b.gate.guard(0, 4, 4, 6);
        b.due("check of CAST with a full stack", b.gate.check(0), 0);
        b.whole(6, 1, -1, 0);
        Bench c = bench("a GUARD that leads to its own INSTRUCTION");
        c.plain(0);
        c.more(0, "new 0; built; fail");
        c.gate.guard(0, 2, 2, 2);
        c.due("check", c.gate.check(0), 0);
        c.whole(2, 1, -1, 0);
        c.value(2, S, Bench.REF, 0, false, 0, -1);
        c.code(0, "null; cast 0; pop; give");
        c.gate.guard(0, 1, 1, 0);
        c.due("a GUARD at 0, where the stack is empty", c.gate.check(0), CLASH);
        c.due("place", c.gate.place(), 0);
    }

    // ---- CLASH goes on

    private void clashOnAllWays() {
        Bench b = withAll("CLASH comes out on all its WAYS");
        b.error(0, "zero 3; go 2; give; give", STACK, 0);
        b.due("ZERO to the next", b.gate.frame(1, -1, 0), -2);
        b.due("ZERO to a", b.gate.frame(3, -1, 0), -2);
        b.error(0, "isnull 3; go 2; give; give", STACK, 0);
        b.due("ISNULL to the next", b.gate.frame(1, -1, 0), -2);
        b.due("ISNULL to a", b.gate.frame(3, -1, 0), -2);
        for (String one : new String[] {"call 1", "cast 0", "fail"}) {
            b.code(0, one + "; go 2; give; give");
            b.gate.guard(0, 0, 0, 3);
            b.due("check of " + one, b.gate.check(0), STACK);
            b.due(one + " to the next", b.gate.frame(1, -1, 0), one.equals("fail") ? -1 : -2);
            b.due(one + " to the GUARD", b.gate.frame(3, -1, 0), -2);
        }
        b.code(0, FOUR + "call 3; give; give");
        b.gate.guard(0, 4, 4, 6);
        b.due("check of a fifth VALUE by CALL", b.gate.check(0), STACK);
        b.due("CALL to the next", b.gate.frame(5, -1, 0), -2);
        b.due("CALL to the GUARD", b.gate.frame(6, -1, 0), -2);
        Bench c = withAll("so it does where the FRAME is CLASH");
        c.error(0, "pop; number 1; load 0; store 1; new 0; built; go 7; zero 9; give; isnull 11; give; call 2; give", STACK, 0);
        for (int i = 1; i <= 12; i++) {
            c.due("CLASH at " + i, c.gate.frame(i, -1, 0), -2);
        }
        for (String one : new String[] {"call 2", "cast 0", "fail"}) {
            c.code(0, "pop; " + one + "; go 2; give");
            c.gate.guard(0, 1, 1, 3);
            c.due("check of " + one, c.gate.check(0), STACK);
            c.due(one + " to the GUARD", c.gate.frame(3, -1, 0), -2);
        }
        c.error(0, "pop; give; give", STACK, 0);
        c.due("no WAY from GIVE", c.gate.frame(2, -1, 0), -1);
    }
}
