/** A gate whose calls are counted: what it answers behind the 512th is free, so no test may ask for it. */
final class Gate {
    static final int MOST_CALLS = 512;
    private final QualifierGate gate = new QualifierGate();
    private int calls;

    int callsLeft() {
        return MOST_CALLS - calls;
    }

    private QualifierGate counted() {
        calls++;
        if (calls > MOST_CALLS) {
            throw new IllegalStateException("a test asks for more than " + MOST_CALLS + " calls of one object");
        }
        return gate;
    }

    int cls(int above) {
        return counted().cls(above);
    }

    int field(int c, int sort, boolean may, int marks) {
        return counted().field(c, sort, may, marks);
    }

    int method(int c, int name, boolean isStatic) {
        return counted().method(c, name, isStatic);
    }

    int param(int m, int sort, boolean may, int marks) {
        return counted().param(m, sort, may, marks);
    }

    boolean result(int m, int sort, boolean may, int marks) {
        return counted().result(m, sort, may, marks);
    }

    boolean builtIn(int m, int kind) {
        return counted().builtIn(m, kind);
    }

    int add(int m, int op, int a) {
        return counted().add(m, op, a);
    }

    int guard(int m, int from, int to, int at) {
        return counted().guard(m, from, to, at);
    }

    int wipe(int m) {
        return counted().wipe(m);
    }

    int check(int m) {
        return counted().check(m);
    }

    int load(int c) {
        return counted().load(c);
    }

    boolean isLoaded(int c) {
        return counted().isLoaded(c);
    }

    int place() {
        return counted().place();
    }

    int frame(int i, int slot, int what) {
        return counted().frame(i, slot, what);
    }

    int input(int v) {
        return counted().input(v);
    }

    int run(int m, int x, int y) {
        return counted().run(m, x, y);
    }

    int value() {
        return counted().value();
    }

    int output(int k) {
        return counted().output(k);
    }

    int told(int what) {
        return counted().told(what);
    }
}
