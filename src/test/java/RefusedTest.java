import java.util.ArrayList;
import java.util.List;
import java.util.Set;
import java.util.TreeSet;

/**
 * "A refused call (BAD, FULL, FROZEN, NOT_READY, false) changes nothing."
 * At each place of a story each call that is refused there is put in, and all that the story's later calls
 * answer must be what they answer without it.
 */
public final class RefusedTest {
    private static final String VIEW = "; place; frame 0 -1 0; frame 1 6 0; frame 2 -1 0; frame 2 6 0; frame 2 6 1; frame 4 -1 0; frame 4 7 3; frame 8 -1 0; frame 8 6 0";
    private static final String OUTCOME = "; value; output 0; output 1; told 0; told 1; told 2; told 3; told 4";
    private static final String LOADED = "; isLoaded 0; isLoaded 1; isLoaded 2";

    // Method 0 calls 3, which 4 does, then reads by 1 and writes by 2; 5 has VARIANCE; 6 is EMPTY.
    private static final String HALF_MADE = "cls 0; cls 1; field 0 -1 0 3; field 1 0 1 0; method 0 0 1; param 0 -1 0 0; result 0 -1 0 15"
        + "; method 0 1 1; result 1 -1 0 1; builtIn 1 0; method 0 2 1; param 2 -1 0 15; builtIn 2 1"
        + "; method 0 3 0; result 3 -1 0 0; add 3 0 30; add 3 16 0; method 1 3 0; result 4 -1 0 0; add 4 0 31; add 4 16 0"
        + "; add 0 7 1; add 0 8 0; add 0 11 3; add 0 11 1; add 0 6 0; add 0 4 0; add 0 11 2; add 0 16 0; add 0 5 0; add 0 0 -1; add 0 16 0"
        + "; guard 0 2 2 8; method 2 0 1; method 2 4 1; input 11; check 3" + VIEW + "; check 6" + VIEW + "; check 0" + VIEW
        + "; cls 2; field 3 3 0 0; guard 0 3 3 8; add 0 16 0; param 0 -1 0 1; result 6 -1 0 0; add 6 0 1; add 6 16 0; check 6; place"
        + "; wipe 6; add 6 4 0; check 6" + VIEW + "; load 0" + LOADED + VIEW + "; run 0 5 6" + OUTCOME + "; load 1" + LOADED + VIEW
        + "; run 0 5 6" + OUTCOME + "; input 12; load 2" + LOADED + VIEW + "; check 5; place; check 1" + VIEW + "; run 0 7 8" + OUTCOME;

    // Method 9 gives the eighth of these inputs.
    private static final String READ = "; add 9 11 1; add 9 3 0";
    private static final String EIGHTH = "; result 9 -1 0 1" + READ + READ + READ + READ + READ + READ + READ + "; add 9 11 1; add 9 16 0";

    // Six classes, twelve fields, ten methods, three parameters (5), 20 instructions and two guards (0), eight inputs.
    private static final String FULL = "cls 0; cls 1; cls 2; cls 3; cls 4"
        + "; field 0 -1 0 0; field 0 -1 0 0; field 0 -1 0 0; field 0 -1 0 0; field 0 -1 0 0; field 0 -1 0 0; field 0 -1 0 0; field 0 -1 0 0"
        + "; field 0 -1 0 0; field 0 -1 0 0; field 0 -1 0 0; field 5 0 1 0"
        + "; method 0 0 1; param 0 -1 0 0; result 0 -1 0 15; method 0 1 1; result 1 -1 0 1; builtIn 1 0"
        + "; method 0 2 1; param 2 -1 0 15; builtIn 2 1; method 0 3 0; result 3 -1 0 0; add 3 0 30; add 3 16 0"
        + "; method 1 3 0; result 4 -1 0 0; add 4 0 31; add 4 16 0; method 0 4 1; param 5 -1 0 1; param 5 -1 0 2; param 5 -1 0 4"
        + "; add 5 2 0; add 5 2 1; add 5 6 0; add 5 2 2; add 5 6 0; add 5 16 0"
        + "; method 2 3 0; result 6 -1 0 0; add 6 0 32; add 6 16 0; method 3 3 0; result 7 -1 0 0; add 7 0 33; add 7 16 0"
        + "; method 4 3 0; result 8 -1 0 0; add 8 0 34; add 8 16 0; method 5 5 1" + EIGHTH
        + "; add 0 7 5; add 0 4 0; add 0 0 7; add 0 10 0; add 0 4 0; add 0 9 0; add 0 3 1; add 0 8 0; add 0 11 3; add 0 11 1; add 0 6 0"
        + "; add 0 4 0; add 0 11 2; add 0 2 1; add 0 6 0; add 0 16 0; add 0 5 0; add 0 0 -1; add 0 16 0; add 0 16 0"
        + "; guard 0 8 8 16; guard 0 9 19 16"
        + "; input 1; input 2; input 3; input 4; input 5; input 6; input 7; input 8"
        + "; check 5" + VIEW + "; frame 5 6 3; frame 5 0 3; frame 5 3 0; check 0" + VIEW + "; frame 15 -1 0; frame 19 -1 0; frame 16 6 0"
        + "; load 0; load 1; load 2; load 3; load 4; run 0 0 0" + OUTCOME + "; load 5" + LOADED + VIEW + "; run 0 0 0" + OUTCOME
        + "; run 9 0 0" + OUTCOME + "; check 9; check 0" + VIEW + "; run 0 1 1" + OUTCOME;

    private static final String TRIED = "cls -1; cls 0; cls 3; cls 5; cls 6"
        + "; field 0 -1 0 0; field 0 0 1 15; field -1 -1 0 0; field 6 -1 0 0; field 0 -2 0 0; field 0 6 0 0; field 0 0 1 16; field 0 0 1 -1"
        + "; method 0 0 1; method 0 0 0; method -1 0 0; method 6 5 0; method 0 6 1; method 0 -1 1; method 3 5 0; method 1 3 1"
        + "; param 0 -1 0 0; param 5 -1 0 8; param 0 0 1 15; param -1 -1 0 0; param 10 -1 0 0; param 0 -2 0 0; param 0 6 0 0; param 0 -1 0 16"
        + "; result 0 -2 0 0; result 0 -1 0 16; result 0 -2 0 16; result 3 0 1 0; result 0 -3 1 0; result 10 -2 0 0; result -1 -2 0 0; result 4 6 0 0"
        + "; builtIn 0 0; builtIn 0 3; builtIn 0 -2; builtIn 10 0; builtIn -1 1; builtIn 1 -1; builtIn 1 1; builtIn 3 2"
        + "; add 0 16 0; add 0 18 0; add 0 -1 0; add 0 2 6; add 0 7 6; add 0 9 12; add 0 11 10; add 0 13 20; add -1 16 0; add 10 16 0; add 3 0 99"
        + "; guard 0 0 19 0; guard 0 2 1 0; guard 0 -1 0 0; guard 0 0 20 0; guard 0 0 0 20; guard 10 0 0 0; guard -1 0 0 0; guard 3 0 0 0"
        + "; wipe 0; wipe 3; wipe 4; wipe -1; wipe 10; check -1; check 7; check 10; load -1; load 6; load 0; load 1; load 2; load 5"
        + "; run -1 1 2; run 10 1 2; run 0 1 2; run 1 1 2; run 3 1 2; run 5 1 2; run 6 1 2; input 99";

    private static final Set<String> DUE = Set.of("cls -1", "cls -2", "cls -3", "field -1", "field -2", "field -3", "method -1", "method -2",
        "method -3", "param -1", "param -2", "param -3", "result 0", "builtIn 0", "add -1", "add -2", "add -3", "guard -1", "guard -2",
        "guard -3", "wipe -1", "wipe -3", "check -1", "load -1", "load -4", "run -1", "input -2");

    private final Report report = new Report();
    private final Set<String> seen = new TreeSet<>();

    public static void main(String[] args) {
        new RefusedTest().all();
    }

    private void all() {
        story("half made", Said.all(HALF_MADE));
        story("full", Said.all(FULL));
        report.dueText("kinds of refusals that were seen", seen.toString(), new TreeSet<>(DUE).toString());
        report.end();
    }

    private void story(String title, List<Said> calls) {
        Gate gate = new Gate();
        List<Integer> answers = new ArrayList<>();
        for (Said call : calls) {
            answers.add(call.on(gate));
        }
        report.due(title + ": the story runs to its end", gate.value(), 42);
        for (int at = 0; at <= calls.size(); at++) {
            for (Said tried : Said.all(TRIED)) {
                putIn(title, calls, answers, at, tried);
            }
        }
    }

    private void putIn(String title, List<Said> calls, List<Integer> answers, int at, Said tried) {
        Gate gate = new Gate();
        for (Said call : calls.subList(0, at)) {
            call.on(gate);
        }
        int answer = tried.on(gate);
        if (!tried.refused(answer)) {
            return;
        }
        seen.add(tried.name() + " " + answer);
        for (int later = at; later < calls.size(); later++) {
            int got = calls.get(later).on(gate);
            if (got == answers.get(later)) {
                report.fine();
            } else {
                report.due(title + ", " + tried + " in front of call " + at + ": then " + calls.get(later), got, answers.get(later));
            }
        }
    }
}
