import java.util.ArrayList;
import java.util.Arrays;
import java.util.List;
import java.util.Random;

/** Many runs of calls from fixed seeds, asked of the gate and of the model; and that loaded code is never NULLED. */
public final class AgainstModelTest {
    private static final int LOOSE_RUNS = 1000;
    private static final int GUIDED_RUNS = 1500;
    private static final int[] OPS_WANTED = {0, 0, 1, 2, 2, 2, 2, 3, 3, 3, 4, 4, 5, 6, 7, 7, 8, 8, 8, 9, 9, 9, 10, 10, 10, 11, 11,
        11, 11, 12, 12, 13, 14, 14, 15, 15, 16, 17};

    private final Report report = new Report();
    private final long[] errors = new long[11];
    private final long[] endings = new long[7];
    private Random random;

    public static void main(String[] args) {
        new AgainstModelTest().all(args.length > 0 ? Integer.parseInt(args[0]) : 1);
    }

    private void all(int times) {
        for (int seed = 0; seed < LOOSE_RUNS * times; seed++) {
            random = new Random(seed);
            loose(new Pair(report, "loose " + seed));
        }
        for (int seed = 0; seed < GUIDED_RUNS * times; seed++) {
            random = new Random(1_000_000L + seed);
            guided(new Pair(report, "guided " + seed));
        }
        System.out.println("errors seen: " + Arrays.toString(errors) + ", endings seen: " + Arrays.toString(endings));
        for (int error = 0; error <= 10; error++) {
            report.due("error " + error + " was seen", errors[error] > 0, true);
        }
        for (int how = 0; how <= 5; how++) {
            report.due("ending " + how + " was seen", endings[how] > 0, true);
        }
        report.due("runs that ended NULLED", endings[6], 0);
        report.end();
    }

    private int upTo(int bound) {
        return random.nextInt(bound);
    }

    private int from(int low, int high) {
        return low + random.nextInt(high - low + 1);
    }

    private boolean coin() {
        return random.nextBoolean();
    }

    private int marks() {
        return coin() ? 0 : coin() ? 15 : upTo(16);
    }

    private void count(int error) {
        if (error >= 0) {
            errors[error]++;
        }
    }

    private void countEnding(int how) {
        if (how >= 0) {
            endings[how]++;
        }
    }

    // ---- calls as they come, wrong ones among them

    private void loose(Pair pair) {
        boolean loads = upTo(3) != 0;
        pair.sameView();
        pair.sameOutcome();
        for (int call = 0; call < 250; call++) {
            looseCall(pair, loads);
        }
    }

    private int someMethod(Pair pair) {
        return upTo(12) == 0 ? from(-2, 11) : upTo(Math.max(1, pair.model.methods.size()));
    }

    private int someClass(Pair pair) {
        return upTo(10) == 0 ? from(-3, 7) : upTo(pair.model.supers.size());
    }

    private int someSort(Pair pair) {
        return upTo(3) == 0 ? -1 : someClass(pair);
    }

    private int wideMarks() {
        return upTo(15) == 0 ? from(-2, 18) : marks();
    }

    private void looseCall(Pair pair, boolean loads) {
        switch (upTo(30)) {
            case 0, 1 -> pair.cls(someClass(pair));
            case 2, 3 -> pair.field(someClass(pair), someSort(pair), coin(), wideMarks());
            case 4, 5 -> pair.method(someClass(pair), upTo(12) == 0 ? from(-1, 6) : upTo(6), coin());
            case 6 -> pair.param(someMethod(pair), someSort(pair), coin(), wideMarks());
            case 7 -> pair.result(someMethod(pair), upTo(4) == 0 ? -2 : someSort(pair), coin(), wideMarks());
            case 8 -> pair.builtIn(someMethod(pair), upTo(3) == 0 ? from(-2, 3) : -1);
            case 9 -> pair.guard(someMethod(pair), from(-1, 12), from(0, 20), from(-1, 20));
            case 10 -> {
                if (upTo(4) == 0) {
                    pair.wipe(someMethod(pair));
                }
            }
            case 11, 12, 13 -> count(pair.check(someMethod(pair)));
            case 14 -> {
                if (loads && upTo(4) == 0) {
                    count(pair.load(someClass(pair)));
                }
            }
            case 15 -> pair.input(from(-5, 5));
            case 16 -> countEnding(pair.run(someMethod(pair), from(-2, 2), from(-2, 2)));
            default -> pair.add(someMethod(pair), upTo(20) == 0 ? from(-1, 18) : OPS_WANTED[upTo(OPS_WANTED.length)], argument(pair));
        }
    }

    private int argument(Pair pair) {
        return upTo(10) == 0 ? from(-2, 21) : upTo(4);
    }

    // ---- code that is let grow only where it has no error but for ways that lead to what is not there yet

    private void guided(Pair pair) {
        int classes = from(1, 5);
        for (int c = 1; c <= classes; c++) {
            pair.cls(upTo(c));
        }
        for (int f = from(0, 8); f > 0; f--) {
            pair.field(upTo(classes + 1), from(-1, classes), upTo(3) != 0, marks());
        }
        for (int m = from(2, 10); m > 0; m--) {
            declare(pair, classes);
        }
        for (int m = 0; m < pair.model.methods.size(); m++) {
            if (pair.model.methods.get(m).builtIn < 0) {
                grow(pair, m);
            }
            count(pair.check(m));
            if (coin()) {
                spoil(pair, m);
            }
        }
        for (int v = upTo(4); v > 0; v--) {
            pair.input(from(-1, 3));
        }
        boolean skips = upTo(3) == 0;
        for (int c = 0; c <= classes; c++) {
            if (!skips || upTo(4) != 0) {
                count(pair.load(c));
            }
        }
        for (int m = 0; m < pair.model.methods.size(); m++) {
            countEnding(pair.run(m, 0, 0));
            countEnding(pair.run(m, from(-1, 2), from(-1, 2)));
        }
    }

    private void declare(Pair pair, int classes) {
        int c = upTo(classes + 1);
        int name = upTo(6);
        GateModel.Meth upper = null;
        for (GateModel.Meth other : pair.model.methods) {
            if (other.name == name && other.owner != c && pair.model.below(c, other.owner)) {
                upper = other;
            }
        }
        boolean isStatic = upper == null ? coin() : upTo(20) == 0;
        int m = pair.method(c, name, isStatic);
        if (m < 0) {
            return;
        }
        if (upper != null && upTo(8) != 0) {
            for (GateModel.Spot spot : upper.params) {
                pair.param(m, spot.sort(), spot.may() || coin(), spot.marks() | upTo(16));
            }
            if (upper.result != null) {
                pair.result(m, upper.result.sort(), upper.result.may() && coin(), upper.result.marks() & marks());
            }
        } else {
            for (int p = upTo(3); p > 0; p--) {
                pair.param(m, coin() ? -1 : upTo(classes + 1), coin(), marks());
            }
            pair.result(m, from(-2, classes), coin(), coin() ? marks() : 15);
        }
        if (upTo(4) == 0) {
            for (int kind = 0; kind < 3; kind++) {
                pair.builtIn(m, kind);
                if (errorNow(pair.model, m) == 0) {
                    return;
                }
            }
            pair.builtIn(m, upTo(10) == 0 ? upTo(3) : -1);
        }
    }

    private void grow(Pair pair, int m) {
        GateModel.Meth method = pair.model.methods.get(m);
        for (int g = upTo(3); g > 0; g--) {
            int low = upTo(6);
            pair.guard(m, low, from(low, 12), from(1, 14));
        }
        int tries = 0;
        boolean whole = false;
        while (tries < 250 && !whole && method.code.size() < 20) {
            tries++;
            int op = method.code.size() > 12 && coin() ? 16 : OPS_WANTED[upTo(OPS_WANTED.length)];
            int a = goodArgument(pair.model, op, method.code.size());
            if (a < 0) {
                continue;
            }
            method.code.add(new GateModel.Ins(op, a));
            if (!growsWell(pair.model, method)) {
                method.code.remove(method.code.size() - 1);
                if (upTo(40) == 0 && !method.code.isEmpty()) {
                    method.code.remove(method.code.size() - 1);
                }
            } else {
                whole = errorNow(pair.model, m) == 0 && upTo(3) == 0;
            }
        }
        List<GateModel.Ins> code = new ArrayList<>(method.code);
        method.code.clear();
        for (GateModel.Ins in : code) {
            pair.add(m, in.op(), in.a());
        }
        if (errorNow(pair.model, m) != 0 && upTo(10) != 0) {
            plainest(pair, m);
        }
    }

    /** What check(m) would answer, asked of the model alone, which stays as it is. */
    private static int errorNow(GateModel model, int m) {
        int place = model.place;
        List<GateModel.Fr> frames = model.frames;
        int error = model.check(m);
        model.place = place;
        model.frames = frames;
        return error;
    }

    /** Puts another instruction into code that had no error, and looks; then the model has the old one again. */
    private void spoil(Pair pair, int m) {
        GateModel.Meth method = pair.model.methods.get(m);
        List<GateModel.Ins> code = new ArrayList<>(method.code);
        List<GateModel.Guard> guards = new ArrayList<>(method.guards);
        int place = pair.model.place;
        List<GateModel.Fr> frames = pair.model.frames;
        for (int time = 0; time < 8 && !code.isEmpty(); time++) {
            int at = upTo(code.size());
            int op = OPS_WANTED[upTo(OPS_WANTED.length)];
            int a = goodArgument(pair.model, op, at);
            Pair other = pair.fork();
            other.wipe(m);
            for (int i = 0; i < code.size(); i++) {
                boolean changed = i == at && a >= 0;
                other.add(m, changed ? op : code.get(i).op(), changed ? a : code.get(i).a());
            }
            for (GateModel.Guard guard : guards) {
                other.guard(m, guard.from(), guard.to(), guard.at());
            }
            count(other.check(m));
        }
        method.code = code;
        method.guards = guards;
        pair.model.place = place;
        pair.model.frames = frames;
    }

    private int goodArgument(GateModel model, int op, int size) {
        return switch (op) {
            case 2, 3 -> upTo(coin() ? 3 : 6);
            case 7, 12 -> upTo(model.supers.size());
            case 9, 10 -> model.fields.isEmpty() ? -1 : upTo(model.fields.size());
            case 11 -> upTo(model.methods.size());
            case 13, 14, 15 -> upTo(3) == 0 ? upTo(size + 1) : Math.min(19, size + from(1, 4));
            default -> upTo(3);
        };
    }

    private static boolean growsWell(GateModel model, GateModel.Meth method) {
        List<GateModel.Fr> frames = model.settle(method);
        for (int i = 0; i < frames.size(); i++) {
            if (frames.get(i) == null) {
                return false;
            }
            // Nops behind the end, so that a way that leads there does not hide what else is wrong.
            int error = model.errorOf(padded(method), i, frames.get(i));
            if (error != 0) {
                return false;
            }
        }
        return true;
    }

    private static GateModel.Meth padded(GateModel.Meth method) {
        GateModel.Meth made = new GateModel.Meth();
        made.owner = method.owner;
        made.isStatic = method.isStatic;
        made.params = method.params;
        made.result = method.result;
        made.guards = method.guards;
        made.code = new ArrayList<>(method.code);
        while (made.code.size() < 21) {
            made.code.add(new GateModel.Ins(16, 0));
        }
        return made;
    }

    /** Something that has no error, so that the classes around it can be loaded. */
    private void plainest(Pair pair, int m) {
        pair.wipe(m);
        GateModel.Spot result = pair.model.methods.get(m).result;
        if (result != null && result.ints()) {
            pair.add(m, 0, upTo(3));
        } else if (result != null && result.may()) {
            pair.add(m, 1, 0);
        } else if (result != null) {
            pair.add(m, 13, 0);
            return;
        }
        pair.add(m, 16, 0);
    }
}
