import java.util.ArrayList;
import java.util.Arrays;
import java.util.Collections;
import java.util.List;
import java.util.TreeSet;

/**
 * The document written down a second time, as literally as may be and without care for speed or room:
 * frames are values that are never changed, found by whole rounds from nothing; runs use real Java objects,
 * recursion and exceptions. AgainstModelTest asks both the same.
 */
final class GateModel {
    enum K { ANY, INT, NULL, REF, RAW }

    record Spot(int sort, boolean may, int marks) {
        boolean ints() {
            return sort == -1;
        }
    }

    record Val(K kind, int cls, boolean may, int marks, int origin) {
        Val known(K newKind, int newCls) {
            return new Val(newKind, newCls, may, marks, origin);
        }

        Val from(int newOrigin) {
            return new Val(kind, cls, may, marks, newOrigin);
        }
    }

    record Fr(List<Val> locals, List<Val> stack, int site, TreeSet<Integer> set) {
    }

    record Way(int to, Fr frame) {
    }

    record Ins(int op, int a) {
    }

    record Guard(int from, int to, int at) {
    }

    static final class Meth {
        int owner;
        int name;
        boolean isStatic;
        List<Spot> params = new ArrayList<>();
        Spot result;
        int builtIn = -1;
        List<Ins> code = new ArrayList<>();
        List<Guard> guards = new ArrayList<>();

        Guard guardOf(int i) {
            for (Guard guard : guards) {
                if (guard.from <= i && i <= guard.to) {
                    return guard;
                }
            }
            return null;
        }
    }

    record Fld(int owner, Spot spot) {
    }

    static final Fr CLASH = new Fr(List.of(), List.of(), -1, new TreeSet<>());
    static final int NUMBER = 0, NULL = 1, LOAD = 2, STORE = 3, DUP = 4, POP = 5, ADD = 6, NEW = 7, BUILT = 8, GET = 9,
        PUT = 10, CALL = 11, CAST = 12, GO = 13, ZERO = 14, ISNULL = 15, GIVE = 16, FAIL = 17;

    final List<Integer> supers = new ArrayList<>(List.of(-1));
    final TreeSet<Integer> loaded = new TreeSet<>();
    final List<Fld> fields = new ArrayList<>();
    final List<Meth> methods = new ArrayList<>();
    final List<Integer> inputs = new ArrayList<>();
    List<Fr> frames = new ArrayList<>();
    int place = -1;
    Run latest = new Run();

    // ---- making

    boolean frozen() {
        return !loaded.isEmpty();
    }

    boolean isClass(int c) {
        return c >= 0 && c < supers.size();
    }

    boolean isMethod(int m) {
        return m >= 0 && m < methods.size();
    }

    boolean isSpot(int sort, int marks) {
        return (sort == -1 || isClass(sort)) && marks >= 0 && marks <= 15;
    }

    int cls(int above) {
        if (frozen()) {
            return -3;
        }
        if (!isClass(above)) {
            return -1;
        }
        if (supers.size() == 6) {
            return -2;
        }
        supers.add(above);
        return supers.size() - 1;
    }

    int field(int c, int sort, boolean may, int marks) {
        if (frozen()) {
            return -3;
        }
        if (!isClass(c) || !isSpot(sort, marks)) {
            return -1;
        }
        if (fields.size() == 12) {
            return -2;
        }
        fields.add(new Fld(c, new Spot(sort, may, marks)));
        return fields.size() - 1;
    }

    int method(int c, int name, boolean isStatic) {
        if (frozen()) {
            return -3;
        }
        if (!isClass(c) || name < 0 || name > 5) {
            return -1;
        }
        for (Meth other : methods) {
            if (other.owner == c && other.name == name) {
                return -1;
            }
        }
        if (methods.size() == 10) {
            return -2;
        }
        Meth made = new Meth();
        made.owner = c;
        made.name = name;
        made.isStatic = isStatic;
        methods.add(made);
        return methods.size() - 1;
    }

    int param(int m, int sort, boolean may, int marks) {
        if (frozen()) {
            return -3;
        }
        if (!isMethod(m) || !isSpot(sort, marks)) {
            return -1;
        }
        if (methods.get(m).params.size() == 3) {
            return -2;
        }
        methods.get(m).params.add(new Spot(sort, may, marks));
        return methods.get(m).params.size();
    }

    boolean result(int m, int sort, boolean may, int marks) {
        if (frozen() || !isMethod(m) || marks < 0 || marks > 15 || sort != -2 && !isSpot(sort, marks)) {
            return false;
        }
        methods.get(m).result = sort == -2 ? null : new Spot(sort, may, marks);
        return true;
    }

    boolean builtIn(int m, int kind) {
        if (frozen() || !isMethod(m) || kind < -1 || kind > 2) {
            return false;
        }
        methods.get(m).builtIn = kind;
        return true;
    }

    int add(int m, int op, int a) {
        if (frozen()) {
            return -3;
        }
        if (!isMethod(m) || op < 0 || op > 17) {
            return -1;
        }
        boolean fine = switch (op) {
            case LOAD, STORE -> a >= 0 && a <= 5;
            case NEW, CAST -> isClass(a);
            case GET, PUT -> a >= 0 && a < fields.size();
            case CALL -> isMethod(a);
            case GO, ZERO, ISNULL -> a >= 0 && a <= 19;
            default -> true;
        };
        if (!fine) {
            return -1;
        }
        if (methods.get(m).code.size() == 20) {
            return -2;
        }
        methods.get(m).code.add(new Ins(op, a));
        return methods.get(m).code.size();
    }

    int guard(int m, int from, int to, int at) {
        if (frozen()) {
            return -3;
        }
        if (!isMethod(m) || from < 0 || from > 19 || to < 0 || to > 19 || at < 0 || at > 19 || from > to) {
            return -1;
        }
        if (methods.get(m).guards.size() == 2) {
            return -2;
        }
        methods.get(m).guards.add(new Guard(from, to, at));
        return methods.get(m).guards.size();
    }

    int wipe(int m) {
        if (frozen()) {
            return -3;
        }
        if (!isMethod(m)) {
            return -1;
        }
        int were = methods.get(m).code.size();
        methods.get(m).code.clear();
        methods.get(m).guards.clear();
        return were;
    }

    // ---- classes

    boolean below(int c, int d) {
        return c == d || supers.get(c) >= 0 && below(supers.get(c), d);
    }

    int common(int c, int d) {
        for (int e = 0; e < supers.size(); e++) {
            if (below(c, e) && below(d, e)) {
                boolean lowest = true;
                for (int f = 0; f < supers.size(); f++) {
                    if (below(c, f) && below(d, f) && !below(e, f)) {
                        lowest = false;
                    }
                }
                if (lowest) {
                    return e;
                }
            }
        }
        throw new IllegalStateException();
    }

    // ---- frames

    Val join(Val v, Val w) {
        K kind = K.ANY;
        int c = -1;
        if (v.kind == w.kind) {
            kind = v.kind;
            c = kind == K.REF ? common(v.cls, w.cls) : v.cls;
        } else if (v.kind == K.NULL && w.kind == K.REF) {
            kind = K.REF;
            c = w.cls;
        } else if (v.kind == K.REF && w.kind == K.NULL) {
            kind = K.REF;
            c = v.cls;
        }
        return new Val(kind, c, v.may || w.may, v.marks | w.marks, v.origin == w.origin ? v.origin : -1);
    }

    Fr join(Fr f, Fr g) {
        if (f == CLASH || g == CLASH || f.stack.size() != g.stack.size()) {
            return CLASH;
        }
        List<Val> locals = new ArrayList<>();
        List<Val> stack = new ArrayList<>();
        for (int l = 0; l < 6; l++) {
            locals.add(join(f.locals.get(l), g.locals.get(l)));
        }
        for (int s = 0; s < f.stack.size(); s++) {
            stack.add(join(f.stack.get(s), g.stack.get(s)));
        }
        if (f.site == g.site) {
            TreeSet<Integer> both = new TreeSet<>(f.set);
            both.retainAll(g.set);
            return new Fr(locals, stack, f.site, both);
        }
        rawTo(locals, K.ANY);
        rawTo(stack, K.ANY);
        return new Fr(locals, stack, -1, new TreeSet<>());
    }

    static void rawTo(List<Val> values, K kind) {
        values.replaceAll(v -> v.kind == K.RAW ? v.known(kind, kind == K.REF ? v.cls : -1) : v);
    }

    Fr begin(Meth m) {
        List<Val> locals = new ArrayList<>();
        if (!m.isStatic) {
            locals.add(new Val(K.REF, m.owner, false, 0, -1));
        }
        for (Spot spot : m.params) {
            locals.add(said(spot));
        }
        while (locals.size() < 6) {
            locals.add(new Val(K.ANY, -1, false, 0, -1));
        }
        return new Fr(locals, new ArrayList<>(), -1, new TreeSet<>());
    }

    static Val said(Spot spot) {
        return spot.ints() ? new Val(K.INT, -1, false, spot.marks, -1) : new Val(K.REF, spot.sort, spot.may, spot.marks, -1);
    }

    int pops(Meth m, Ins in) {
        return switch (in.op) {
            case NUMBER, NULL, LOAD, NEW, GO -> 0;
            case ADD, PUT -> 2;
            case CALL -> methods.get(in.a).params.size() + (methods.get(in.a).isStatic ? 0 : 1);
            case GIVE -> m.result == null ? 0 : 1;
            default -> 1;
        };
    }

    int pushes(Ins in) {
        return switch (in.op) {
            case NUMBER, NULL, LOAD, ADD, NEW, BUILT, GET, CAST -> 1;
            case DUP -> 2;
            case CALL -> methods.get(in.a).result == null ? 0 : 1;
            default -> 0;
        };
    }

    boolean stackError(Meth m, Ins in, Fr f) {
        int left = f.stack.size() - pops(m, in);
        return left < 0 || left + pushes(in) > 4;
    }

    List<Integer> targets(Meth m, int i) {
        List<Integer> found = new ArrayList<>();
        Ins in = m.code.get(i);
        if (in.op != GO && in.op != GIVE && in.op != FAIL) {
            found.add(i + 1);
        }
        if (in.op == GO || in.op == ZERO || in.op == ISNULL) {
            found.add(in.a);
        }
        if ((in.op == CALL || in.op == CAST || in.op == FAIL) && m.guardOf(i) != null) {
            found.add(m.guardOf(i).at);
        }
        return found;
    }

    List<Way> ways(Meth m, int i, Fr f) {
        List<Way> found = new ArrayList<>();
        Ins in = m.code.get(i);
        if (f == CLASH || stackError(m, in, f)) {
            for (int to : targets(m, i)) {
                found.add(new Way(to, CLASH));
            }
            return found;
        }
        Fr next = after(m, i, f);
        switch (in.op) {
            case GO -> found.add(new Way(in.a, next));
            case ZERO -> {
                found.add(new Way(i + 1, next));
                found.add(new Way(in.a, next));
            }
            case ISNULL -> {
                int origin = f.stack.get(f.stack.size() - 1).origin;
                List<Val> on = new ArrayList<>(next.locals);
                List<Val> off = new ArrayList<>(next.locals);
                if (origin >= 0) {
                    Val was = next.locals.get(origin);
                    on.set(origin, new Val(was.kind, was.cls, false, was.marks, was.origin));
                    off.set(origin, was.kind == K.REF ? was.known(K.NULL, -1) : was);
                }
                found.add(new Way(i + 1, new Fr(on, next.stack, next.site, next.set)));
                found.add(new Way(in.a, new Fr(off, next.stack, next.site, next.set)));
            }
            case GIVE, FAIL -> { }
            default -> found.add(new Way(i + 1, next));
        }
        if ((in.op == CALL || in.op == CAST || in.op == FAIL) && m.guardOf(i) != null) {
            found.add(new Way(m.guardOf(i).at, new Fr(f.locals, List.of(new Val(K.REF, 0, false, 0, -1)), f.site, f.set)));
        }
        return found;
    }

    Fr after(Meth m, int i, Fr f) {
        Ins in = m.code.get(i);
        List<Val> locals = new ArrayList<>(f.locals);
        List<Val> stack = new ArrayList<>(f.stack);
        TreeSet<Integer> set = new TreeSet<>(f.set);
        int site = f.site;
        List<Val> popped = new ArrayList<>();
        if (in.op != DUP && in.op != BUILT) {
            for (int p = pops(m, in); p > 0; p--) {
                popped.add(stack.remove(stack.size() - 1));
            }
        }
        switch (in.op) {
            case NUMBER -> stack.add(new Val(K.INT, -1, false, 0, -1));
            case NULL -> stack.add(new Val(K.NULL, -1, true, 0, -1));
            case LOAD -> stack.add(locals.get(in.a).from(in.a));
            case STORE -> {
                locals.set(in.a, popped.get(0).from(-1));
                stack.replaceAll(v -> v.origin == in.a ? v.from(-1) : v);
            }
            case DUP -> stack.add(stack.get(stack.size() - 1));
            case ADD -> stack.add(new Val(K.INT, -1, false, popped.get(0).marks | popped.get(1).marks, -1));
            case NEW -> {
                rawTo(locals, K.ANY);
                rawTo(stack, K.ANY);
                site = i;
                set.clear();
                stack.add(new Val(K.RAW, in.a, false, 0, -1));
            }
            case BUILT -> {
                K kind = stack.get(stack.size() - 1).kind == K.RAW ? K.REF : K.ANY;
                rawTo(locals, kind);
                rawTo(stack, kind);
                site = -1;
                set.clear();
            }
            case GET -> {
                Spot spot = fields.get(in.a).spot;
                K object = popped.get(0).kind;
                boolean may = spot.may || object == K.ANY || object == K.INT || object == K.RAW && !set.contains(in.a);
                stack.add(said(new Spot(spot.sort, may, spot.marks)));
            }
            case PUT -> {
                if (popped.get(1).kind == K.RAW) {
                    set.add(in.a);
                }
            }
            case CALL -> {
                if (methods.get(in.a).result != null) {
                    stack.add(said(methods.get(in.a).result));
                }
            }
            case CAST -> stack.add(new Val(K.REF, in.a, popped.get(0).may, popped.get(0).marks, -1));
            default -> { }
        }
        return new Fr(locals, stack, site, set);
    }

    /** Whole rounds from nothing: each frame anew from what came out of all in the round before. */
    List<Fr> settle(Meth m) {
        List<Fr> now = new ArrayList<>(Collections.nCopies(m.code.size(), null));
        for (int round = 0; round < 100_000; round++) {
            List<Fr> next = new ArrayList<>(Collections.nCopies(m.code.size(), null));
            if (!next.isEmpty()) {
                next.set(0, begin(m));
            }
            for (int i = 0; i < now.size(); i++) {
                if (now.get(i) != null) {
                    for (Way way : ways(m, i, now.get(i))) {
                        if (way.to < next.size()) {
                            Fr there = next.get(way.to);
                            next.set(way.to, there == null ? way.frame : join(there, way.frame));
                        }
                    }
                }
            }
            if (same(now, next)) {
                return now;
            }
            now = next;
        }
        throw new IllegalStateException("the rounds have no end");
    }

    static boolean same(List<Fr> f, List<Fr> g) {
        for (int i = 0; i < f.size(); i++) {
            boolean clash = f.get(i) == CLASH || g.get(i) == CLASH;
            if (clash ? f.get(i) != g.get(i) : !java.util.Objects.equals(f.get(i), g.get(i))) {
                return false;
            }
        }
        return true;
    }

    // ---- errors

    /** What a value is needed for: INTS, or a reference to a class; with what it may be. */
    record Need(Val v, boolean ints, int cls, boolean rawToo, boolean mayNull, int marks) {
    }

    Need toSpot(Val v, Spot spot) {
        return new Need(v, spot.ints(), spot.sort, false, spot.ints() || spot.may, spot.marks);
    }

    List<Need> needs(Meth m, Ins in, Fr f) {
        List<Need> found = new ArrayList<>();
        List<Val> top = new ArrayList<>(f.stack);
        Collections.reverse(top);
        switch (in.op) {
            case ADD -> {
                found.add(new Need(top.get(0), true, -1, false, true, 15));
                found.add(new Need(top.get(1), true, -1, false, true, 15));
            }
            case ZERO -> found.add(new Need(top.get(0), true, -1, false, true, 15));
            case GET -> found.add(new Need(top.get(0), false, fields.get(in.a).owner, true, false, 15));
            case PUT -> {
                found.add(toSpot(top.get(0), fields.get(in.a).spot));
                found.add(new Need(top.get(1), false, fields.get(in.a).owner, true, false, 15));
            }
            case CALL -> {
                Meth called = methods.get(in.a);
                int n = called.params.size();
                for (int p = 0; p < n; p++) {
                    found.add(toSpot(top.get(n - 1 - p), called.params.get(p)));
                }
                if (!called.isStatic) {
                    found.add(new Need(top.get(n), false, called.owner, false, false, 0));
                }
            }
            case CAST, ISNULL -> found.add(new Need(top.get(0), false, 0, false, true, 15));
            case GIVE -> {
                if (m.result != null) {
                    found.add(toSpot(top.get(0), m.result));
                }
            }
            case FAIL -> found.add(new Need(top.get(0), false, 0, false, false, 0));
            default -> { }
        }
        return found;
    }

    int errorOf(Meth m, int i, Fr f) {
        Ins in = m.code.get(i);
        for (int to : targets(m, i)) {
            if (to >= m.code.size()) {
                return 1;
            }
        }
        if (f == CLASH) {
            return 2;
        }
        if (stackError(m, in, f)) {
            return 3;
        }
        List<Need> needs = needs(m, in, f);
        Val top = f.stack.isEmpty() ? null : f.stack.get(f.stack.size() - 1);
        for (Need need : needs) {
            K kind = need.v.kind;
            boolean lies = kind == K.NULL || (kind == K.REF || kind == K.RAW) && below(need.v.cls, Math.max(0, need.cls));
            if (need.ints ? kind != K.INT : !lies) {
                return 4;
            }
        }
        if (in.op == BUILT && top.kind != K.RAW) {
            return 4;
        }
        for (Need need : needs) {
            if (!need.ints && need.v.kind == K.RAW && !need.rawToo) {
                return 5;
            }
        }
        if (in.op == BUILT) {
            for (int g = 0; g < fields.size(); g++) {
                Fld field = fields.get(g);
                if (below(top.cls, field.owner) && !field.spot.ints() && !field.spot.may && !f.set.contains(g)) {
                    return 5;
                }
            }
        }
        for (Need need : needs) {
            if (!need.ints && need.v.may && !need.mayNull) {
                return 6;
            }
        }
        for (Need need : needs) {
            if ((need.v.marks & ~need.marks) != 0) {
                return 7;
            }
        }
        return 0;
    }

    boolean outside(Meth m) {
        Spot first = m.params.isEmpty() ? null : m.params.get(0);
        return switch (m.builtIn) {
            case 0 -> m.result == null || !m.result.ints();
            case 1 -> first == null || !first.ints() || m.result != null;
            default -> {
                if (first == null || m.result == null) {
                    yield true;
                }
                if (first.ints()) {
                    yield !m.result.ints();
                }
                yield m.result.ints() || !below(first.sort, m.result.sort) || first.may && !m.result.may;
            }
        };
    }

    boolean variance(Meth lower) {
        for (int c = supers.get(lower.owner); c >= 0; c = supers.get(c)) {
            for (Meth upper : methods) {
                if (upper.owner == c && upper.name == lower.name) {
                    return variance(lower, upper);
                }
            }
        }
        return false;
    }

    boolean variance(Meth lower, Meth upper) {
        if (lower.isStatic || upper.isStatic || lower.params.size() != upper.params.size()) {
            return true;
        }
        for (int p = 0; p < lower.params.size(); p++) {
            if (variance(upper.params.get(p), lower.params.get(p))) {
                return true;
            }
        }
        if (lower.result == null || upper.result == null) {
            return lower.result != upper.result;
        }
        return variance(lower.result, upper.result);
    }

    boolean variance(Spot from, Spot to) {
        if (from.ints() != to.ints()) {
            return true;
        }
        if (!from.ints() && (!below(from.sort, to.sort) || from.may && !to.may)) {
            return true;
        }
        return (from.marks & ~to.marks) != 0;
    }

    // ---- looking through

    int look(int m) {
        Meth looked = methods.get(m);
        if (looked.builtIn >= 0) {
            frames = new ArrayList<>();
            place = outside(looked) ? 32 * m + 31 : -1;
            return outside(looked) ? 9 : 0;
        }
        frames = settle(looked);
        if (looked.code.isEmpty()) {
            place = 32 * m + 31;
            return 8;
        }
        for (int i = 0; i < frames.size(); i++) {
            int error = frames.get(i) == null ? 0 : errorOf(looked, i, frames.get(i));
            if (error != 0) {
                place = 32 * m + i;
                return error;
            }
        }
        place = -1;
        return 0;
    }

    int check(int m) {
        return isMethod(m) ? look(m) : -1;
    }

    int load(int c) {
        if (!isClass(c) || loaded.contains(c)) {
            return -1;
        }
        if (supers.get(c) >= 0 && !loaded.contains(supers.get(c))) {
            return -4;
        }
        place = -1;
        for (int m = 0; m < methods.size(); m++) {
            if (methods.get(m).owner == c) {
                if (variance(methods.get(m))) {
                    place = 32 * m + 31;
                    return 10;
                }
                int error = look(m);
                if (error != 0) {
                    return error;
                }
            }
        }
        loaded.add(c);
        return 0;
    }

    boolean isLoaded(int c) {
        return loaded.contains(c);
    }

    int place() {
        return place;
    }

    int frame(int i, int slot, int what) {
        Fr f = i >= 0 && i < frames.size() ? frames.get(i) : null;
        if (f == null) {
            return -1;
        }
        if (f == CLASH) {
            return slot == -1 && what == 0 ? -2 : -1;
        }
        if (slot == -1) {
            return switch (what) {
                case 0 -> f.stack.size();
                case 1 -> f.site;
                case 2 -> f.set.stream().mapToInt(g -> 1 << g).sum();
                default -> -1;
            };
        }
        if (slot < 0 || slot > 9 || slot >= 6 && slot - 6 >= f.stack.size()) {
            return -1;
        }
        Val v = slot < 6 ? f.locals.get(slot) : f.stack.get(slot - 6);
        return switch (what) {
            case 0 -> v.kind.ordinal();
            case 1 -> v.cls;
            case 2 -> v.may ? 1 : 0;
            case 3 -> v.marks;
            case 4 -> v.origin;
            default -> -1;
        };
    }

    // ---- running

    static final class Obj {
        final int cls;
        final Object[] held = new Object[12];

        Obj(int cls) {
            this.cls = cls;
        }
    }

    private static final class Thrown extends RuntimeException {
        private static final long serialVersionUID = 1;
        final transient Obj object;

        Thrown(Obj object) {
            super(null, null, false, false);
            this.object = object;
        }
    }

    private static final class End extends RuntimeException {
        private static final long serialVersionUID = 1;
        final int how;

        End(int how) {
            super(null, null, false, false);
            this.how = how;
        }
    }

    static final class Run {
        int value;
        int begun;
        int made;
        int taken;
        int most;
        final List<Integer> outputs = new ArrayList<>();
    }

    int input(int v) {
        if (inputs.size() == 8) {
            return -2;
        }
        inputs.add(v);
        return inputs.size();
    }

    int run(int m, int x, int y) {
        if (!isMethod(m)) {
            return -1;
        }
        Meth first = methods.get(m);
        if (!first.isStatic || first.builtIn >= 0 || !loaded.contains(first.owner) || first.params.size() > 2) {
            return -1;
        }
        for (Spot spot : first.params) {
            if (!spot.ints()) {
                return -1;
            }
        }
        latest = new Run();
        List<Object> given = new ArrayList<Object>(List.of(x, y)).subList(0, first.params.size());
        try {
            Object out = work(first, given, 1);
            if (first.result != null) {
                latest.value = first.result.ints() ? (Integer) out : out == null ? -1 : ((Obj) out).cls;
            }
            return 0;
        } catch (Thrown thrown) {
            latest.value = thrown.object.cls;
            return 1;
        } catch (End end) {
            return end.how;
        }
    }

    Object work(Meth m, List<Object> given, int depth) {
        latest.most = Math.max(latest.most, depth);
        Object[] locals = new Object[6];
        Arrays.fill(locals, 0);
        for (int g = 0; g < given.size(); g++) {
            locals[g] = given.get(g);
        }
        List<Object> stack = new ArrayList<>();
        int i = 0;
        while (true) {
            if (latest.begun == 400) {
                throw new End(4);
            }
            latest.begun++;
            Ins in = m.code.get(i);
            if (in.op == GIVE) {
                return m.result == null ? null : pop(stack);
            }
            try {
                i = step(in, i, locals, stack, depth);
            } catch (Thrown thrown) {
                if (m.guardOf(i) == null) {
                    throw thrown;
                }
                stack.clear();
                stack.add(thrown.object);
                i = m.guardOf(i).at;
            }
        }
    }

    static Object pop(List<Object> stack) {
        return stack.remove(stack.size() - 1);
    }

    static Obj object(Object v) {
        if (v == null) {
            throw new End(6);
        }
        return (Obj) v;
    }

    int step(Ins in, int i, Object[] locals, List<Object> stack, int depth) {
        switch (in.op) {
            case NUMBER -> stack.add(in.a);
            case NULL -> stack.add(null);
            case LOAD -> stack.add(locals[in.a]);
            case STORE -> locals[in.a] = pop(stack);
            case DUP -> stack.add(stack.get(stack.size() - 1));
            case POP -> pop(stack);
            case ADD -> stack.add((Integer) pop(stack) + (Integer) pop(stack));
            case NEW -> {
                if (!loaded.contains(in.a)) {
                    throw new End(5);
                }
                if (latest.made == 24) {
                    throw new End(2);
                }
                latest.made++;
                Obj made = new Obj(in.a);
                for (int g = 0; g < fields.size(); g++) {
                    made.held[g] = fields.get(g).spot.ints() ? (Integer) 0 : null;
                }
                stack.add(made);
            }
            case GET -> stack.add(object(pop(stack)).held[in.a]);
            case PUT -> {
                Object v = pop(stack);
                object(pop(stack)).held[in.a] = v;
            }
            case CALL -> call(methods.get(in.a), stack, depth);
            case CAST -> {
                Obj v = (Obj) pop(stack);
                if (v != null && !below(v.cls, in.a)) {
                    throw new Thrown(v);
                }
                stack.add(v);
            }
            case GO -> {
                return in.a;
            }
            case ZERO -> {
                return (Integer) pop(stack) == 0 ? in.a : i + 1;
            }
            case ISNULL -> {
                return (Obj) pop(stack) == null ? in.a : i + 1;
            }
            case FAIL -> throw new Thrown(object(pop(stack)));
            default -> { }
        }
        return i + 1;
    }

    void call(Meth named, List<Object> stack, int depth) {
        List<Object> given = new ArrayList<>();
        for (int p = 0; p < named.params.size(); p++) {
            given.add(0, pop(stack));
        }
        Meth doer = named;
        if (!named.isStatic) {
            Obj self = object(pop(stack));
            given.add(0, self);
            doer = null;
            for (int c = self.cls; c >= 0 && doer == null; c = supers.get(c)) {
                for (Meth m : methods) {
                    if (m.owner == c && m.name == named.name) {
                        doer = m;
                    }
                }
            }
        }
        if (!loaded.contains(doer.owner)) {
            throw new End(5);
        }
        Object first = doer.params.isEmpty() ? null : given.get(doer.isStatic ? 0 : 1);
        switch (doer.builtIn) {
            case 0 -> {
                stack.add(latest.taken < inputs.size() ? inputs.get(latest.taken) : (Integer) 0);
                latest.taken++;
            }
            case 1 -> latest.outputs.add((Integer) first);
            case 2 -> stack.add(first);
            default -> {
                if (depth == 6) {
                    throw new End(3);
                }
                Object out = work(doer, given, depth + 1);
                if (doer.result != null) {
                    stack.add(out);
                }
            }
        }
    }

    int value() {
        return latest.value;
    }

    int output(int k) {
        return k >= 0 && k < 16 && k < latest.outputs.size() ? latest.outputs.get(k) : 0;
    }

    int told(int what) {
        return switch (what) {
            case 0 -> latest.begun;
            case 1 -> latest.made;
            case 2 -> latest.outputs.size();
            case 3 -> latest.taken;
            case 4 -> latest.most;
            default -> -1;
        };
    }
}
