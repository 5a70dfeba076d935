import java.util.ArrayList;
import java.util.List;

/**
 * What calls leave alone: looks keep their answers while things are made or run, runs keep theirs while things are
 * looked through, asking changes nothing, and objects share nothing.
 */
public final class TogetherTest {
    // Method 0 gives an object of class 1 and puts its parameter and an input out; 1 reads, 2 writes; 3, of class 2, has an ERROR.
    private static final String MADE = "cls 0; cls 0; field 0 -1 0 15; field 1 0 1 3; method 0 0 1; param 0 -1 0 5; result 0 0 1 0"
        + "; method 0 1 1; result 1 -1 0 2; builtIn 1 0; method 0 2 1; param 2 -1 0 15; builtIn 2 1"
        + "; add 0 7 1; add 0 4 0; add 0 2 0; add 0 10 0; add 0 8 0; add 0 2 0; add 0 11 2; add 0 11 1; add 0 11 2; add 0 16 0; add 0 5 0; add 0 1 0; add 0 16 0"
        + "; guard 0 6 8 10; method 2 3 1; add 3 1 0; add 3 17 0; input 11; input 12";
    private static final String LOOKED = MADE + "; check 3; check 0";
    private static final String LOOKED_WITH_ERROR = MADE + "; check 0; check 3";
    private static final String LOADED = MADE + "; load 0; load 1";
    private static final String RUN = LOADED + "; run 0 70 0";
    private static final String THROWN = "cls 0; method 0 5 1; add 0 7 1; add 0 8 0; add 0 17 0; load 0; load 1; run 0 0 0";

    private static final String MAKING = "cls 1; field 1 1 0 7; method 1 0 0; param 0 0 1 15; param 3 -1 0 1; result 0 -2 0 0; result 3 0 0 1"
        + "; builtIn 0 2; builtIn 3 0; builtIn 1 -1; add 0 13 19; add 3 0 5; guard 0 0 19 0; guard 3 0 0 1; wipe 0; wipe 3; input 99";
    private static final String RUNNING = "run 0 1 2; run 0 -1 0; input 98";
    private static final String LOOKING = "check 0; check 1; check 2; check 3; load 2; input 97";

    private final Report report = new Report();

    public static void main(String[] args) {
        new TogetherTest().all();
    }

    private void all() {
        stories();
        leaves("14, 15: as it was then", LOOKED, MAKING, views());
        leaves("14, 15: as it was then", LOOKED_WITH_ERROR, MAKING, views());
        leaves("14, 15: of the latest check or load, not of a run", LOADED, RUNNING, views());
        leaves("14, 15: of the latest check or load, not of a run", RUN, RUNNING, views());
        leaves("14, 15: of the latest check or load, not of a run", LOADED + "; load 2", RUNNING, views());
        leaves("18, 19, 20: of the latest run, not of a look", RUN, LOOKING, outcomes());
        leaves("18, 19, 20: of the latest run, not of a look", THROWN, "check 0; input 1", outcomes());
        leaves("13: a run or a check LOADS nothing", LOADED, RUNNING + "; check 0; check 3", loads());
        leaves("13: what is made LOADS nothing", LOOKED, MAKING, loads());
        asking();
        sideBySide(RUN, THROWN);
        sideBySide(LOOKED, LOOKED_WITH_ERROR);
        sideBySide(RUN, RUN.replace("run 0 70 0", "run 0 71 0").replace("input 11", "input 13"));
        report.end();
    }

    /** So that what is compared below is not empty. */
    private void stories() {
        report.dueText("looked", last(LOOKED + "; frame 4 -1 2"), "1");
        report.dueText("looked, with an ERROR", last(LOOKED_WITH_ERROR), "" + QualifierGate.NULL);
        report.dueText("run", last(RUN), "" + QualifierGate.DONE);
        report.dueText("its object", last(RUN + "; value"), "1");
        report.dueText("its output", last(RUN + "; output 0") + last(RUN + "; output 1"), "7011");
        report.dueText("thrown", last(THROWN), "" + QualifierGate.THROWN);
        report.dueText("what was thrown", last(THROWN + "; value"), "1");
    }

    private static String last(String story) {
        List<Integer> got = answers(new Gate(), Said.all(story));
        return got.get(got.size() - 1).toString();
    }

    private static List<Said> views() {
        List<Said> asked = new ArrayList<>(Said.all("place"));
        for (int i = 0; i < 20; i++) {
            for (int what = 0; what <= 2; what++) {
                asked.add(new Said("frame", new int[] {i, -1, what}));
            }
            for (int slot = 0; slot <= 9; slot++) {
                for (int what = 0; what <= 4; what++) {
                    asked.add(new Said("frame", new int[] {i, slot, what}));
                }
            }
        }
        return asked;
    }

    private static List<Said> outcomes() {
        List<Said> asked = new ArrayList<>(Said.all("value; told 0; told 1; told 2; told 3; told 4"));
        for (int k = 0; k <= 16; k++) {
            asked.add(new Said("output", new int[] {k}));
        }
        return asked;
    }

    private static List<Said> loads() {
        return Said.all("isLoaded 0; isLoaded 1; isLoaded 2; isLoaded 5; isLoaded 6; isLoaded -1");
    }

    private static List<Integer> answers(Gate gate, List<Said> calls) {
        List<Integer> got = new ArrayList<>();
        for (Said call : calls) {
            got.add(call.on(gate));
        }
        return got;
    }

    /** What is asked behind a story, of as many objects as it takes, each of which lives through the story. */
    private static List<Integer> behind(List<Said> story, List<Said> asked) {
        List<Integer> got = new ArrayList<>();
        Gate gate = null;
        for (Said call : asked) {
            if (gate == null || gate.callsLeft() == 0) {
                gate = new Gate();
                answers(gate, story);
            }
            got.add(call.on(gate));
        }
        return got;
    }

    private void leaves(String sentence, String story, String further, List<Said> asked) {
        List<Said> before = Said.all(story);
        List<Integer> due = behind(before, asked);
        List<Said> all = new ArrayList<>(before);
        for (Said call : Said.all(further)) {
            List<Said> with = new ArrayList<>(before);
            with.add(call);
            all.add(call);
            List<Integer> got = answers(new Gate(), with);
            report.due(call + " is not refused", call.refused(got.get(before.size())), false);
            compare(sentence + ", behind " + call, asked, behind(with, asked), due);
        }
        compare(sentence + ", behind all of " + further, asked, behind(all, asked), due);
    }

    private void compare(String title, List<Said> asked, List<Integer> got, List<Integer> due) {
        for (int a = 0; a < asked.size(); a++) {
            report.due(title + ": " + asked.get(a), got.get(a), due.get(a));
        }
    }

    private void asking() {
        List<Said> story = Said.all(RUN + "; check 0; input 5; run 0 3 4");
        List<Said> asked = outcomes();
        asked.addAll(loads());
        asked.addAll(views());
        asked.addAll(Said.all("frame -1 0 0; frame 20 -1 0; frame 0 -2 0; frame 0 10 0; frame 0 0 5; output -1; told -1; told 5"));
        List<Integer> due = answers(new Gate(), story);
        List<Integer> outcome = behind(story, asked);
        for (int at = 0; at <= story.size(); at++) {
            Gate gate = new Gate();
            List<Integer> got = answers(gate, story.subList(0, at));
            int most = gate.callsLeft() - (story.size() - at) - outcomes().size();
            answers(gate, asked.subList(0, Math.min(most, asked.size())));
            got.addAll(answers(gate, story.subList(at, story.size())));
            compare("asking changes nothing, in front of call " + at, story, got, due);
            compare("asking changes nothing, in front of call " + at, outcomes(), answers(gate, outcomes()), outcome);
        }
    }

    private void sideBySide(String one, String other) {
        List<Said> left = Said.all(one);
        List<Said> right = Said.all(other);
        left.addAll(outcomes());
        right.addAll(outcomes());
        left.addAll(views().subList(0, 200));
        right.addAll(views().subList(0, 200));
        Gate l = new Gate();
        Gate r = new Gate();
        List<Integer> leftGot = new ArrayList<>();
        List<Integer> rightGot = new ArrayList<>();
        for (int at = 0; at < Math.max(left.size(), right.size()); at++) {
            if (at < left.size()) {
                leftGot.add(left.get(at).on(l));
            }
            if (at < right.size()) {
                rightGot.add(right.get(at).on(r));
            }
        }
        compare("objects share nothing, the first", left, leftGot, answers(new Gate(), left));
        compare("objects share nothing, the second", right, rightGot, answers(new Gate(), right));
    }
}
