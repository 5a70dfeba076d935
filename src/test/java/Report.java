/** Counts what was asked and prints each answer that is not the one that is due. */
final class Report {
    private int asked;
    private int wrong;

    void due(String what, long got, long want) {
        dueText(what, Long.toString(got), Long.toString(want));
    }

    void due(String what, boolean got, boolean want) {
        dueText(what, Boolean.toString(got), Boolean.toString(want));
    }

    void dueText(String what, String got, String want) {
        asked++;
        if (!got.equals(want)) {
            wrong++;
            System.out.println(what + " answered " + got + ", due is " + want);
        }
    }

    /** Counts an answer that was seen to be as due. */
    void fine() {
        asked++;
    }

    int wrong() {
        return wrong;
    }

    void end() {
        System.out.println(asked + " answers, " + wrong + " of them not as due");
        if (wrong != 0) {
            System.exit(1);
        }
    }
}
