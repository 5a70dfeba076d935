/**
 * A gate for small classes of stack code: what is made here is looked through
 * method by method, and only classes that pass are loaded and can be run.
 */
public final class QualifierGate {
    public static final int BAD = -1, FULL = -2, FROZEN = -3, NOT_READY = -4;
    public static final int WAY = 1, CLASH = 2, STACK = 3, KIND = 4, RAW = 5, NULL = 6, MARKS = 7, EMPTY = 8, OUTSIDE = 9, VARIANCE = 10;
    public static final int DONE = 0, THROWN = 1, HEAP = 2, DEEP = 3, LONG = 4, UNLOADED = 5, NULLED = 6;

    private static final int MOST_CLASSES = 6;
    private static final int MOST_FIELDS = 12;
    private static final int MOST_METHODS = 10;
    private static final int MOST_NAMES = 6;
    private static final int MOST_PARAMS = 3;
    private static final int MOST_INSTRUCTIONS = 20;
    private static final int MOST_GUARDS = 2;
    private static final int ALL_MARKS = 15;
    private static final int LOCALS = 6;
    private static final int MOST_STACK = 4;
    private static final int MOST_INPUTS = 8;
    private static final int MOST_KEPT = 16;
    private static final int MOST_OBJECTS = 24;
    private static final int MOST_AT_WORK = 6;
    private static final int MOST_BEGUN = 400;

    /** The sort of a place for ints, and that of a result that is not there. */
    private static final int INTS = -1, NOTHING = -2;
    /** No class, no local, no instruction. */
    private static final int NONE = -1;
    /** Heights that tell of a frame that it is no stack of values at all. */
    private static final int UNREACHED = -1, CLASHED = -2;
    private static final int READS = 0, WRITES = 1, SAME = 2;
    private static final int PLACES_A_METHOD = 32, WHOLE_METHOD = 31;

    private final Stock stock;
    private final Look look;
    private final Machine machine;
    private int lastPlace;

    public QualifierGate() {
        stock = new Stock();
        look = new Look(stock);
        machine = new Machine(stock);
        lastPlace = NONE;
    }

    public int cls(int above) {
        if (stock.frozen) {
            return FROZEN;
        }
        if (!stock.isClass(above)) {
            return BAD;
        }
        return stock.classCount == MOST_CLASSES ? FULL : stock.makeClass(above);
    }

    public int field(int c, int sort, boolean may, int marks) {
        if (stock.frozen) {
            return FROZEN;
        }
        if (!stock.isClass(c) || !stock.isPlace(sort, marks)) {
            return BAD;
        }
        return stock.fieldCount == MOST_FIELDS ? FULL : stock.makeField(c, new Place(sort, may, marks));
    }

    public int method(int c, int name, boolean isStatic) {
        if (stock.frozen) {
            return FROZEN;
        }
        if (!stock.isClass(c) || !within(name, MOST_NAMES) || stock.own(c, name) != null) {
            return BAD;
        }
        return stock.methodCount == MOST_METHODS ? FULL : stock.makeMethod(new Method(c, name, isStatic));
    }

    public int param(int m, int sort, boolean may, int marks) {
        if (stock.frozen) {
            return FROZEN;
        }
        if (!stock.isMethod(m) || !stock.isPlace(sort, marks)) {
            return BAD;
        }
        Method to = stock.methods[m];
        return to.paramCount == MOST_PARAMS ? FULL : to.addParam(new Place(sort, may, marks));
    }

    public boolean result(int m, int sort, boolean may, int marks) {
        boolean known = sort == NOTHING ? within(marks, ALL_MARKS + 1) : stock.isPlace(sort, marks);
        if (stock.frozen || !stock.isMethod(m) || !known) {
            return false;
        }
        stock.methods[m].result.become(sort, may, marks);
        return true;
    }

    public boolean builtIn(int m, int kind) {
        if (stock.frozen || !stock.isMethod(m) || kind < NONE || kind > SAME) {
            return false;
        }
        stock.methods[m].builtInKind = kind;
        return true;
    }

    public int add(int m, int op, int a) {
        if (stock.frozen) {
            return FROZEN;
        }
        if (!stock.isMethod(m) || !within(op, Op.COUNT) || !stock.isArgument(op, a)) {
            return BAD;
        }
        Method to = stock.methods[m];
        return to.count == MOST_INSTRUCTIONS ? FULL : to.addInstruction(op, a);
    }

    public int guard(int m, int from, int to, int at) {
        if (stock.frozen) {
            return FROZEN;
        }
        boolean numbers = within(from, MOST_INSTRUCTIONS) && within(to, MOST_INSTRUCTIONS) && within(at, MOST_INSTRUCTIONS);
        if (!stock.isMethod(m) || !numbers || from > to) {
            return BAD;
        }
        Method of = stock.methods[m];
        return of.guardCount == MOST_GUARDS ? FULL : of.addGuard(from, to, at);
    }

    public int wipe(int m) {
        if (stock.frozen) {
            return FROZEN;
        }
        return stock.isMethod(m) ? stock.methods[m].clear() : BAD;
    }

    public int check(int m) {
        if (!stock.isMethod(m)) {
            return BAD;
        }
        int error = look.through(stock.methods[m]);
        lastPlace = placeOf(m, error);
        return error;
    }

    public int load(int c) {
        if (!stock.isClass(c) || stock.loaded[c]) {
            return BAD;
        }
        if (c != 0 && !stock.loaded[stock.above[c]]) {
            return NOT_READY;
        }
        lastPlace = NONE;
        for (int m = 0; m < stock.methodCount; m++) {
            Method method = stock.methods[m];
            if (method.owner == c) {
                int error = look.departs(method) ? VARIANCE : look.through(method);
                if (error != 0) {
                    lastPlace = placeOf(m, error);
                    return error;
                }
            }
        }
        stock.loaded[c] = true;
        stock.frozen = true;
        return 0;
    }

    public boolean isLoaded(int c) {
        return stock.isClass(c) && stock.loaded[c];
    }

    public int place() {
        return lastPlace;
    }

    public int frame(int i, int slot, int what) {
        Frame frame = look.frameAt(i);
        if (frame == null) {
            return BAD;
        }
        if (slot == -1 && what == 0) {
            return frame.height;
        }
        if (frame.height < 0) {
            return BAD;
        }
        if (slot == -1) {
            return what == 1 ? frame.site : what == 2 ? frame.set : BAD;
        }
        return within(slot, LOCALS + frame.height) ? Value.part(frame.slots[slot], what) : BAD;
    }

    public int input(int v) {
        return machine.inputCount == MOST_INPUTS ? FULL : machine.addInput(v);
    }

    public int run(int m, int x, int y) {
        if (!stock.isMethod(m) || !stock.canStart(stock.methods[m])) {
            return BAD;
        }
        return machine.start(stock.methods[m], x, y);
    }

    public int value() {
        return machine.answer;
    }

    public int output(int k) {
        return within(k, Math.min(machine.putOut, MOST_KEPT)) ? machine.outputs[k] : 0;
    }

    public int told(int what) {
        switch (what) {
            case 0:
                return machine.begun;
            case 1:
                return machine.made;
            case 2:
                return machine.putOut;
            case 3:
                return machine.taken;
            case 4:
                return machine.mostAtWork;
            default:
                return BAD;
        }
    }

    private int placeOf(int m, int error) {
        if (error == 0) {
            return NONE;
        }
        return PLACES_A_METHOD * m + (error >= EMPTY ? WHOLE_METHOD : look.errorAt);
    }

    private static boolean within(int n, int bound) {
        return n >= 0 && n < bound;
    }

    /** The instructions, and how many values each pops and pushes where that is the same for all methods. */
    private static final class Op {
        static final int NUMBER = 0, NULL = 1, LOAD = 2, STORE = 3, DUP = 4, POP = 5, ADD = 6, NEW = 7, BUILT = 8;
        static final int GET = 9, PUT = 10, CALL = 11, CAST = 12, GO = 13, ZERO = 14, ISNULL = 15, GIVE = 16, FAIL = 17;
        static final int COUNT = 18;
        // DUP and BUILT need a top value as if they popped it, so they stand as popping and pushing it again.
        private static final int[] POPS = {0, 0, 0, 1, 1, 1, 2, 0, 1, 1, 2, 0, 1, 0, 1, 1, 0, 1};
        private static final int[] PUSHES = {1, 1, 1, 0, 2, 0, 1, 1, 1, 1, 0, 0, 1, 0, 0, 0, 0, 0};

        static boolean goesOn(int op) {
            return op != GO && op != GIVE && op != FAIL;
        }

        static boolean jumps(int op) {
            return op == GO || op == ZERO || op == ISNULL;
        }

        static boolean mayThrow(int op) {
            return op == CALL || op == CAST || op == FAIL;
        }
    }

    /** A place for values: a field, a parameter or a result. */
    private static final class Place {
        int sort;
        boolean may;
        int marks;

        Place(int sort, boolean may, int marks) {
            become(sort, may, marks);
        }

        // Whether ints may be null matters nowhere, so it is forgotten here once for all.
        void become(int newSort, boolean newMay, int newMarks) {
            sort = newSort;
            may = newMay && newSort >= 0;
            marks = newMarks;
        }
    }

    private static final class Method {
        final int owner;
        final int name;
        final boolean isStatic;
        final Place[] params = new Place[MOST_PARAMS];
        int paramCount;
        final Place result = new Place(NOTHING, false, 0);
        int builtInKind = NONE;
        final int[] ops = new int[MOST_INSTRUCTIONS];
        final int[] args = new int[MOST_INSTRUCTIONS];
        int count;
        final int[] guardFrom = new int[MOST_GUARDS];
        final int[] guardTo = new int[MOST_GUARDS];
        final int[] guardAt = new int[MOST_GUARDS];
        int guardCount;

        Method(int owner, int name, boolean isStatic) {
            this.owner = owner;
            this.name = name;
            this.isStatic = isStatic;
        }

        int addParam(Place place) {
            params[paramCount] = place;
            paramCount++;
            return paramCount;
        }

        int addInstruction(int op, int a) {
            ops[count] = op;
            args[count] = a;
            count++;
            return count;
        }

        int addGuard(int from, int to, int at) {
            guardFrom[guardCount] = from;
            guardTo[guardCount] = to;
            guardAt[guardCount] = at;
            guardCount++;
            return guardCount;
        }

        int clear() {
            int were = count;
            count = 0;
            guardCount = 0;
            return were;
        }

        boolean isBuiltIn() {
            return builtInKind != NONE;
        }

        boolean gives() {
            return result.sort != NOTHING;
        }

        /** How many values a call takes: the arguments and, if there is one, the object. */
        int takes() {
            return paramCount + firstParam();
        }

        int firstParam() {
            return isStatic ? 0 : 1;
        }

        /** Where what instruction i throws is caught, or NONE. */
        int caughtAt(int i) {
            for (int g = 0; g < guardCount; g++) {
                if (guardFrom[g] <= i && i <= guardTo[g]) {
                    return guardAt[g];
                }
            }
            return NONE;
        }
    }

    /** The classes, fields and methods that are there. */
    private static final class Stock {
        int classCount = 1;
        final int[] above = new int[MOST_CLASSES];
        /** For each class the sum of 2^d for the classes d that it is below. */
        private final int[] aboveSets = new int[MOST_CLASSES];
        final boolean[] loaded = new boolean[MOST_CLASSES];
        boolean frozen;
        int fieldCount;
        final int[] fieldOwners = new int[MOST_FIELDS];
        final Place[] fields = new Place[MOST_FIELDS];
        int methodCount;
        final Method[] methods = new Method[MOST_METHODS];

        Stock() {
            above[0] = NONE;
            aboveSets[0] = 1;
        }

        int makeClass(int superClass) {
            int c = classCount;
            above[c] = superClass;
            aboveSets[c] = aboveSets[superClass] | 1 << c;
            classCount++;
            return c;
        }

        int makeField(int owner, Place place) {
            fieldOwners[fieldCount] = owner;
            fields[fieldCount] = place;
            fieldCount++;
            return fieldCount - 1;
        }

        int makeMethod(Method method) {
            methods[methodCount] = method;
            methodCount++;
            return methodCount - 1;
        }

        boolean isClass(int c) {
            return within(c, classCount);
        }

        boolean isMethod(int m) {
            return within(m, methodCount);
        }

        boolean isPlace(int sort, int marks) {
            return (sort == INTS || isClass(sort)) && within(marks, ALL_MARKS + 1);
        }

        boolean isArgument(int op, int a) {
            switch (op) {
                case Op.LOAD:
                case Op.STORE:
                    return within(a, LOCALS);
                case Op.NEW:
                case Op.CAST:
                    return isClass(a);
                case Op.GET:
                case Op.PUT:
                    return within(a, fieldCount);
                case Op.CALL:
                    return isMethod(a);
                case Op.GO:
                case Op.ZERO:
                case Op.ISNULL:
                    return within(a, MOST_INSTRUCTIONS);
                default:
                    return true;
            }
        }

        boolean below(int c, int d) {
            return (aboveSets[c] >> d & 1) != 0;
        }

        /** The lowest class that both are below: the highest number, since a super is made before what is below it. */
        int common(int c, int d) {
            int both = aboveSets[c] & aboveSets[d];
            for (int e = MOST_CLASSES - 1; e > 0; e--) {
                if ((both >> e & 1) != 0) {
                    return e;
                }
            }
            return 0;
        }

        Method own(int c, int name) {
            for (int m = 0; m < methodCount; m++) {
                if (methods[m].owner == c && methods[m].name == name) {
                    return methods[m];
                }
            }
            return null;
        }

        /** The method of this name in class c or in the nearest class above that has one; null if none has. */
        Method nearest(int c, int name) {
            int at = c;
            for (int step = 0; step < MOST_CLASSES && at != NONE; step++) {
                Method found = own(at, name);
                if (found != null) {
                    return found;
                }
                at = above[at];
            }
            return null;
        }

        int pops(Method method, int i) {
            switch (method.ops[i]) {
                case Op.CALL:
                    return methods[method.args[i]].takes();
                case Op.GIVE:
                    return method.gives() ? 1 : 0;
                default:
                    return Op.POPS[method.ops[i]];
            }
        }

        boolean breaksStack(Method method, int i, int height) {
            int op = method.ops[i];
            int left = height - pops(method, i);
            int pushed = op == Op.CALL && methods[method.args[i]].gives() ? 1 : Op.PUSHES[op];
            return left < 0 || left + pushed > MOST_STACK;
        }

        boolean canStart(Method method) {
            if (!method.isStatic || method.isBuiltIn() || !loaded[method.owner] || method.paramCount > 2) {
                return false;
            }
            for (int p = 0; p < method.paramCount; p++) {
                if (method.params[p].sort != INTS) {
                    return false;
                }
            }
            return true;
        }
    }

    /** What is known of a value, in one int, so that frames are made and joined without new objects. */
    private static final class Value {
        static final int ANY = 0, INT = 1, NULL = 2, REF = 3, RAW = 4;
        private static final int CLASS_AT = 3, MAY_AT = 6, MARKS_AT = 7, ORIGIN_AT = 11;

        // Classes and origins are held one higher, so that NONE is 0.
        static int of(int kind, int c, boolean may, int marks) {
            return kind | (c + 1) << CLASS_AT | (may ? 1 : 0) << MAY_AT | marks << MARKS_AT;
        }

        static int ofPlace(Place place, boolean may) {
            return place.sort == INTS ? of(INT, NONE, false, place.marks) : of(REF, place.sort, may, place.marks);
        }

        static int kind(int v) {
            return v & 7;
        }

        static int classOf(int v) {
            return (v >> CLASS_AT & 7) - 1;
        }

        static boolean may(int v) {
            return (v >> MAY_AT & 1) != 0;
        }

        static int marks(int v) {
            return v >> MARKS_AT & ALL_MARKS;
        }

        static int origin(int v) {
            return (v >> ORIGIN_AT) - 1;
        }

        static int withOrigin(int v, int origin) {
            return v & ((1 << ORIGIN_AT) - 1) | (origin + 1) << ORIGIN_AT;
        }

        static int withKind(int v, int kind, int c) {
            return v & (-1 << MAY_AT) | kind | (c + 1) << CLASS_AT;
        }

        static int notNull(int v) {
            return v & ~(1 << MAY_AT);
        }

        static int join(int v, int w, Stock stock) {
            if (v == w) {
                return v;
            }
            int k = kind(v);
            int l = kind(w);
            int joined = of(ANY, NONE, may(v) || may(w), marks(v) | marks(w));
            if (origin(v) == origin(w)) {
                joined = withOrigin(joined, origin(v));
            }
            if (k == REF && l == REF) {
                return withKind(joined, REF, stock.common(classOf(v), classOf(w)));
            }
            if (k == l || k == REF && l == NULL) {
                return withKind(joined, k, classOf(v));
            }
            return k == NULL && l == REF ? withKind(joined, REF, classOf(w)) : joined;
        }

        static int part(int v, int what) {
            switch (what) {
                case 0:
                    return kind(v);
                case 1:
                    return classOf(v);
                case 2:
                    return may(v) ? 1 : 0;
                case 3:
                    return marks(v);
                case 4:
                    return origin(v);
                default:
                    return BAD;
            }
        }
    }

    /** What is known in front of an instruction: the locals, then the stack, lowest first. */
    private static final class Frame {
        final int[] slots = new int[LOCALS + MOST_STACK];
        int height = UNREACHED;
        int site = NONE;
        int set;
        /** Whether it was raised since the instruction behind it was followed last. */
        boolean fresh;

        void become(Frame other) {
            System.arraycopy(other.slots, 0, slots, 0, slots.length);
            height = other.height;
            site = other.site;
            set = other.set;
        }

        void push(int v) {
            slots[LOCALS + height] = v;
            height++;
        }

        int pop() {
            height--;
            return slots[LOCALS + height];
        }

        /** The value that lies under k others. */
        int under(int k) {
            return slots[LOCALS + height - 1 - k];
        }

        void store(int local) {
            slots[local] = Value.withOrigin(pop(), NONE);
            for (int s = LOCALS; s < LOCALS + height; s++) {
                if (Value.origin(slots[s]) == local) {
                    slots[s] = Value.withOrigin(slots[s], NONE);
                }
            }
        }

        /** Ends the building at the old site: no value is RAW then; what was so is known as a REF, or no more. */
        void leaveSite(boolean built, int newSite) {
            for (int s = 0; s < LOCALS + height; s++) {
                if (Value.kind(slots[s]) == Value.RAW) {
                    int c = Value.classOf(slots[s]);
                    slots[s] = built ? Value.withKind(slots[s], Value.REF, c) : Value.withKind(slots[s], Value.ANY, NONE);
                }
            }
            site = newSite;
            set = 0;
        }

        /** Takes in what comes along a way. */
        void join(Frame other, Stock stock) {
            if (height == UNREACHED) {
                become(other);
                fresh = true;
                return;
            }
            if (height == CLASHED) {
                return;
            }
            if (other.height != height) {
                height = CLASHED;
                fresh = true;
                return;
            }
            int oldSite = site;
            int oldSet = set;
            if (site == other.site) {
                set = set & other.set;
            } else {
                // Nothing here is RAW then, so that what comes as RAW joins to ANY.
                leaveSite(false, NONE);
            }
            fresh = fresh || site != oldSite || set != oldSet;
            for (int s = 0; s < LOCALS + height; s++) {
                int joined = Value.join(slots[s], other.slots[s], stock);
                fresh = fresh || joined != slots[s];
                slots[s] = joined;
            }
        }
    }

    /** Looks methods through: finds the frames of one, then its first error. */
    private static final class Look {
        // Each round but the last begins with a frame that was raised, and twenty frames of ten values can't be raised this often.
        private static final int MOST_ROUNDS = 10_000;
        private final Stock stock;
        private final Rules rules;
        private final Frame[] frames = new Frame[MOST_INSTRUCTIONS];
        private final Frame out = new Frame();
        private final Frame jump = new Frame();
        private Method method;
        int errorAt;

        Look(Stock stock) {
            this.stock = stock;
            rules = new Rules(stock);
            for (int i = 0; i < frames.length; i++) {
                frames[i] = new Frame();
            }
        }

        Frame frameAt(int i) {
            return within(i, frames.length) ? frames[i] : null;
        }

        int through(Method looked) {
            method = looked;
            for (int i = 0; i < frames.length; i++) {
                frames[i].height = UNREACHED;
                frames[i].fresh = false;
            }
            if (looked.isBuiltIn()) {
                return rules.isFitBuiltIn(looked) ? 0 : OUTSIDE;
            }
            if (looked.count == 0) {
                return EMPTY;
            }
            begin(frames[0]);
            settle();
            for (int i = 0; i < looked.count; i++) {
                int error = rules.wayError(looked, i, frames[i]);
                if (error == 0 && frames[i].height >= 0) {
                    error = rules.valueError(looked, i, frames[i]);
                }
                if (error != 0) {
                    errorAt = i;
                    return error;
                }
            }
            return 0;
        }

        boolean departs(Method lower) {
            int c = stock.above[lower.owner];
            Method upper = stock.nearest(c, lower.name);
            return upper != null && !rules.mayReplace(lower, upper);
        }

        private void begin(Frame first) {
            first.height = 0;
            first.site = NONE;
            first.set = 0;
            first.fresh = true;
            for (int local = 0; local < LOCALS; local++) {
                first.slots[local] = Value.of(Value.ANY, NONE, false, 0);
            }
            if (!method.isStatic) {
                first.slots[0] = Value.of(Value.REF, method.owner, false, 0);
            }
            for (int p = 0; p < method.paramCount; p++) {
                Place place = method.params[p];
                first.slots[method.firstParam() + p] = Value.ofPlace(place, place.may);
            }
        }

        private void settle() {
            boolean raised = true;
            for (int round = 0; raised && round < MOST_ROUNDS; round++) {
                raised = false;
                for (int i = 0; i < method.count; i++) {
                    if (frames[i].fresh) {
                        frames[i].fresh = false;
                        leave(i);
                        raised = true;
                    }
                }
            }
        }

        private void leave(int i) {
            int op = method.ops[i];
            Frame in = frames[i];
            boolean broken = in.height == CLASHED || stock.breaksStack(method, i, in.height);
            out.become(in);
            if (broken) {
                out.height = CLASHED;
            } else if (op < Op.GET) {
                applyToValues(i, op, method.args[i]);
            } else {
                applyToStock(op, method.args[i]);
            }
            if (Op.jumps(op)) {
                arrive(method.args[i], broken || op != Op.ISNULL ? out : jump);
            }
            if (Op.goesOn(op)) {
                arrive(i + 1, out);
            }
            int caught = Op.mayThrow(op) ? method.caughtAt(i) : NONE;
            if (caught != NONE) {
                out.become(in);
                beginCatch(broken);
                arrive(caught, out);
            }
        }

        private void beginCatch(boolean broken) {
            out.height = broken ? CLASHED : 0;
            if (!broken) {
                out.push(Value.of(Value.REF, 0, false, 0));
            }
        }

        private void arrive(int i, Frame from) {
            if (i < method.count) {
                frames[i].join(from, stock);
            }
        }

        /** NUMBER to BUILT, which need nothing but the frame. */
        private void applyToValues(int i, int op, int a) {
            switch (op) {
                case Op.NUMBER:
                    out.push(Value.of(Value.INT, NONE, false, 0));
                    break;
                case Op.NULL:
                    out.push(Value.of(Value.NULL, NONE, true, 0));
                    break;
                case Op.LOAD:
                    out.push(Value.withOrigin(out.slots[a], a));
                    break;
                case Op.STORE:
                    out.store(a);
                    break;
                case Op.DUP:
                    out.push(out.under(0));
                    break;
                case Op.POP:
                    out.pop();
                    break;
                case Op.ADD:
                    out.push(Value.of(Value.INT, NONE, false, Value.marks(out.pop()) | Value.marks(out.pop())));
                    break;
                case Op.NEW:
                    out.leaveSite(false, i);
                    out.push(Value.of(Value.RAW, a, false, 0));
                    break;
                default:
                    out.leaveSite(Value.kind(out.under(0)) == Value.RAW, NONE);
            }
        }

        /** GET to FAIL, which look at fields, methods and classes, or lead elsewhere. */
        private void applyToStock(int op, int a) {
            switch (op) {
                case Op.GET:
                    get(a);
                    break;
                case Op.PUT:
                    put(a);
                    break;
                case Op.CALL:
                    call(stock.methods[a]);
                    break;
                case Op.CAST:
                    int v = out.pop();
                    out.push(Value.of(Value.REF, a, Value.may(v), Value.marks(v)));
                    break;
                case Op.ZERO:
                    out.pop();
                    break;
                case Op.ISNULL:
                    isNull();
                    break;
                default:
                    // GO leaves all as it is; what GIVE and FAIL pop is seen nowhere.
                    break;
            }
        }

        private void get(int f) {
            int object = out.pop();
            int kind = Value.kind(object);
            boolean unset = kind == Value.RAW && (out.set >> f & 1) == 0;
            boolean unsure = kind == Value.ANY || kind == Value.INT || unset;
            out.push(Value.ofPlace(stock.fields[f], stock.fields[f].may || unsure));
        }

        private void put(int f) {
            out.pop();
            if (Value.kind(out.pop()) == Value.RAW) {
                out.set = out.set | 1 << f;
            }
        }

        private void call(Method called) {
            out.height -= called.takes();
            if (called.gives()) {
                out.push(Value.ofPlace(called.result, called.result.may));
            }
        }

        /** Leaves in out what goes on, and in jump what goes to where it is null. */
        private void isNull() {
            int local = Value.origin(out.pop());
            jump.become(out);
            if (local != NONE) {
                if (Value.kind(out.slots[local]) == Value.REF) {
                    jump.slots[local] = Value.withKind(jump.slots[local], Value.NULL, NONE);
                }
                out.slots[local] = Value.notNull(out.slots[local]);
            }
        }
    }

    /** What each instruction and each method may not do. */
    private static final class Rules {
        private final Stock stock;

        Rules(Stock stock) {
            this.stock = stock;
        }

        /** The first of WAY, CLASH and STACK that applies, else 0: only then the frame has the values that are needed. */
        int wayError(Method method, int i, Frame frame) {
            if (frame.height == UNREACHED) {
                return 0;
            }
            if (leadsAway(method, i)) {
                return WAY;
            }
            if (frame.height == CLASHED) {
                return CLASH;
            }
            return stock.breaksStack(method, i, frame.height) ? STACK : 0;
        }

        private boolean leadsAway(Method method, int i) {
            int op = method.ops[i];
            boolean next = Op.goesOn(op) && i + 1 >= method.count;
            boolean jump = Op.jumps(op) && method.args[i] >= method.count;
            return next || jump || Op.mayThrow(op) && method.caughtAt(i) >= method.count;
        }

        int valueError(Method method, int i, Frame frame) {
            int a = method.args[i];
            switch (method.ops[i]) {
                case Op.ADD:
                    return first(intError(frame.under(0)), intError(frame.under(1)));
                case Op.ZERO:
                    return intError(frame.under(0));
                case Op.BUILT:
                    return builtError(frame.under(0), frame.set);
                case Op.GET:
                    return holderError(frame.under(0), stock.fieldOwners[a]);
                case Op.PUT:
                    return first(comingError(frame.under(0), stock.fields[a]), holderError(frame.under(1), stock.fieldOwners[a]));
                case Op.CALL:
                    return callError(stock.methods[a], frame);
                case Op.CAST:
                case Op.ISNULL:
                    return referenceError(frame.under(0), 0, true, ALL_MARKS);
                case Op.GIVE:
                    return method.gives() ? comingError(frame.under(0), method.result) : 0;
                case Op.FAIL:
                    return referenceError(frame.under(0), 0, false, 0);
                default:
                    return 0;
            }
        }

        /** Of the errors of two values, 0 for none, the one that counts. */
        private static int first(int e, int f) {
            return e == 0 || f == 0 ? e + f : Math.min(e, f);
        }

        private static int intError(int v) {
            return Value.kind(v) == Value.INT ? 0 : KIND;
        }

        private boolean isReference(int v, int c) {
            int kind = Value.kind(v);
            return kind == Value.NULL || (kind == Value.REF || kind == Value.RAW) && stock.below(Value.classOf(v), c);
        }

        private int referenceError(int v, int c, boolean may, int marks) {
            if (!isReference(v, c)) {
                return KIND;
            }
            if (Value.kind(v) == Value.RAW) {
                return RAW;
            }
            if (Value.may(v) && !may) {
                return NULL;
            }
            return (Value.marks(v) & ~marks) != 0 ? MARKS : 0;
        }

        /** For the object of GET and PUT, which may be RAW and may have marks. */
        private int holderError(int v, int owner) {
            if (!isReference(v, owner)) {
                return KIND;
            }
            return Value.may(v) ? NULL : 0;
        }

        /** For a value that comes to a field, parameter or result. */
        private int comingError(int v, Place place) {
            if (place.sort != INTS) {
                return referenceError(v, place.sort, place.may, place.marks);
            }
            if (Value.kind(v) != Value.INT) {
                return KIND;
            }
            return (Value.marks(v) & ~place.marks) != 0 ? MARKS : 0;
        }

        private int callError(Method called, Frame frame) {
            int error = 0;
            for (int p = 0; p < called.paramCount; p++) {
                int argument = frame.under(called.paramCount - 1 - p);
                error = first(error, comingError(argument, called.params[p]));
            }
            if (called.isStatic) {
                return error;
            }
            return first(error, referenceError(frame.under(called.paramCount), called.owner, false, 0));
        }

        private int builtError(int v, int set) {
            if (Value.kind(v) != Value.RAW) {
                return KIND;
            }
            for (int f = 0; f < stock.fieldCount; f++) {
                Place place = stock.fields[f];
                boolean needed = place.sort != INTS && !place.may && (set >> f & 1) == 0;
                if (needed && stock.below(Value.classOf(v), stock.fieldOwners[f])) {
                    return RAW;
                }
            }
            return 0;
        }

        boolean isFitBuiltIn(Method method) {
            switch (method.builtInKind) {
                case READS:
                    return method.result.sort == INTS;
                case WRITES:
                    return method.paramCount > 0 && method.params[0].sort == INTS && !method.gives();
                default:
                    return method.paramCount > 0 && method.gives() && fits(method.params[0], method.result);
            }
        }

        /** Whether values of one place can be in the other one, if marks are left aside. */
        private boolean fits(Place from, Place to) {
            if (from.sort < 0 || to.sort < 0) {
                return from.sort == to.sort;
            }
            return stock.below(from.sort, to.sort) && (to.may || !from.may);
        }

        private boolean fitsWithMarks(Place from, Place to) {
            return fits(from, to) && (from.marks & ~to.marks) == 0;
        }

        boolean mayReplace(Method lower, Method upper) {
            if (lower.isStatic || upper.isStatic || lower.paramCount != upper.paramCount) {
                return false;
            }
            for (int p = 0; p < lower.paramCount; p++) {
                if (!fitsWithMarks(upper.params[p], lower.params[p])) {
                    return false;
                }
            }
            // Marks were told with a result that is not there, too, and must not matter.
            return lower.gives() ? fitsWithMarks(lower.result, upper.result) : !upper.gives();
        }
    }

    /** A method at work. */
    private static final class Activation {
        Method method;
        int at;
        final int[] locals = new int[LOCALS];
        final int[] stack = new int[MOST_STACK];
        int height;

        void begin(Method newMethod) {
            method = newMethod;
            at = 0;
            height = 0;
            for (int local = 0; local < LOCALS; local++) {
                locals[local] = 0;
            }
        }

        // What is loaded never over- or underruns its stack; the tests keep the arrays safe all the same.
        void push(int v) {
            if (height < MOST_STACK) {
                stack[height] = v;
                height++;
            }
        }

        int pop() {
            if (height == 0) {
                return 0;
            }
            height--;
            return stack[height];
        }
    }

    /** Runs methods. A reference is 0 for null, else one more than the number of the object. */
    private static final class Machine {
        private static final int GOING = -1;
        private final Stock stock;
        private final int[] inputs = new int[MOST_INPUTS];
        int inputCount;
        final int[] outputs = new int[MOST_KEPT];
        int answer;
        int begun;
        int made;
        int putOut;
        int taken;
        int mostAtWork;
        private final int[] classes = new int[MOST_OBJECTS];
        private final int[] held = new int[MOST_OBJECTS * MOST_FIELDS];
        private final Activation[] works = new Activation[MOST_AT_WORK];
        private int atWork;
        private int ending;

        Machine(Stock stock) {
            this.stock = stock;
            for (int w = 0; w < works.length; w++) {
                works[w] = new Activation();
            }
        }

        int addInput(int v) {
            inputs[inputCount] = v;
            inputCount++;
            return inputCount;
        }

        int start(Method method, int x, int y) {
            answer = 0;
            begun = 0;
            made = 0;
            putOut = 0;
            taken = 0;
            mostAtWork = 0;
            atWork = 0;
            ending = GOING;
            Activation first = enter(method);
            if (method.paramCount > 0) {
                first.locals[0] = x;
            }
            if (method.paramCount > 1) {
                first.locals[1] = y;
            }
            for (int step = 0; ending == GOING && step < MOST_BEGUN; step++) {
                begun++;
                perform(works[atWork - 1]);
            }
            return ending == GOING ? LONG : ending;
        }

        private Activation enter(Method method) {
            Activation next = works[atWork];
            next.begin(method);
            atWork++;
            mostAtWork = Math.max(mostAtWork, atWork);
            return next;
        }

        private void perform(Activation now) {
            // No way of what is loaded leads away; the test keeps the arrays safe all the same.
            if (!within(now.at, now.method.count)) {
                ending = NULLED;
                return;
            }
            int a = now.method.args[now.at];
            switch (now.method.ops[now.at]) {
                case Op.NUMBER:
                    pushAndGoOn(now, a);
                    break;
                case Op.NULL:
                    pushAndGoOn(now, 0);
                    break;
                case Op.LOAD:
                    pushAndGoOn(now, now.locals[a]);
                    break;
                case Op.STORE:
                    now.locals[a] = now.pop();
                    now.at++;
                    break;
                case Op.DUP:
                    int top = now.pop();
                    now.push(top);
                    pushAndGoOn(now, top);
                    break;
                case Op.POP:
                    now.pop();
                    now.at++;
                    break;
                case Op.ADD:
                    pushAndGoOn(now, now.pop() + now.pop());
                    break;
                case Op.BUILT:
                    now.at++;
                    break;
                case Op.GO:
                    now.at = a;
                    break;
                case Op.ZERO:
                case Op.ISNULL:
                    now.at = now.pop() == 0 ? a : now.at + 1;
                    break;
                default:
                    performOnObjects(now, a);
            }
        }

        private void performOnObjects(Activation now, int a) {
            switch (now.method.ops[now.at]) {
                case Op.NEW:
                    makeObject(now, a);
                    break;
                case Op.GET:
                    get(now, a);
                    break;
                case Op.PUT:
                    put(now, a);
                    break;
                case Op.CALL:
                    call(now, stock.methods[a]);
                    break;
                case Op.CAST:
                    cast(now, a);
                    break;
                case Op.GIVE:
                    give(now);
                    break;
                default:
                    raise(now.pop());
            }
        }

        private static void pushAndGoOn(Activation now, int v) {
            now.push(v);
            now.at++;
        }

        private boolean isObject(int reference) {
            return reference > 0 && reference <= made;
        }

        private void makeObject(Activation now, int c) {
            if (!stock.loaded[c]) {
                ending = UNLOADED;
                return;
            }
            if (made == MOST_OBJECTS) {
                ending = HEAP;
                return;
            }
            classes[made] = c;
            for (int f = 0; f < MOST_FIELDS; f++) {
                held[made * MOST_FIELDS + f] = 0;
            }
            made++;
            pushAndGoOn(now, made);
        }

        private void get(Activation now, int f) {
            int object = now.pop();
            if (!isObject(object)) {
                ending = NULLED;
                return;
            }
            pushAndGoOn(now, held[(object - 1) * MOST_FIELDS + f]);
        }

        private void put(Activation now, int f) {
            int v = now.pop();
            int object = now.pop();
            if (!isObject(object)) {
                ending = NULLED;
                return;
            }
            held[(object - 1) * MOST_FIELDS + f] = v;
            now.at++;
        }

        private void cast(Activation now, int c) {
            int v = now.pop();
            if (isObject(v) && !stock.below(classes[v - 1], c)) {
                raise(v);
            } else {
                pushAndGoOn(now, v);
            }
        }

        private void call(Activation now, Method named) {
            int base = Math.max(0, now.height - named.takes());
            Method doer = named;
            if (!named.isStatic) {
                int object = now.stack[Math.min(base, MOST_STACK - 1)];
                doer = isObject(object) ? stock.nearest(classes[object - 1], named.name) : null;
            }
            if (doer == null) {
                ending = NULLED;
            } else if (!stock.loaded[doer.owner]) {
                ending = UNLOADED;
            } else if (doer.isBuiltIn()) {
                callBuiltIn(now, doer, base);
            } else if (atWork == MOST_AT_WORK) {
                ending = DEEP;
            } else {
                Activation next = enter(doer);
                System.arraycopy(now.stack, base, next.locals, 0, now.height - base);
                now.height = base;
            }
        }

        private void callBuiltIn(Activation now, Method doer, int base) {
            int first = now.stack[Math.min(base + doer.firstParam(), MOST_STACK - 1)];
            now.height = base;
            now.at++;
            switch (doer.builtInKind) {
                case READS:
                    now.push(taken < inputCount ? inputs[taken] : 0);
                    taken++;
                    break;
                case WRITES:
                    if (putOut < MOST_KEPT) {
                        outputs[putOut] = first;
                    }
                    putOut++;
                    break;
                default:
                    now.push(first);
            }
        }

        private void give(Activation now) {
            boolean gives = now.method.gives();
            int given = gives ? now.pop() : 0;
            atWork--;
            if (atWork == 0) {
                ending = DONE;
                answer = gives && now.method.result.sort != INTS ? classOf(given) : given;
                return;
            }
            Activation caller = works[atWork - 1];
            if (gives) {
                caller.push(given);
            }
            caller.at++;
        }

        private int classOf(int reference) {
            return isObject(reference) ? classes[reference - 1] : NONE;
        }

        /** Throws an object: it goes on where that is caught, as near as may be. */
        private void raise(int object) {
            if (!isObject(object)) {
                ending = NULLED;
                return;
            }
            for (int w = atWork; w > 0; w--) {
                Activation work = works[w - 1];
                int caught = work.method.caughtAt(work.at);
                if (caught != NONE) {
                    atWork = w;
                    work.height = 0;
                    work.push(object);
                    work.at = caught;
                    return;
                }
            }
            ending = THROWN;
            answer = classOf(object);
        }
    }
}
