/** Counts the answers that are not the ones that are due, and tells each of them. */
final class Checks {
    private int asked = 0;
    private int wrong = 0;

    void due(String what, long got, long want) {
        asked++;
        if (got != want) {
            wrong++;
            System.out.println(what + ": answered " + got + ", due is " + want);
        }
    }

    void holds(String what, boolean got) {
        due(what, got ? 1 : 0, 1);
    }

    void fails(String what, boolean got) {
        due(what, got ? 1 : 0, 0);
    }

    /** To be called last: the exit code is 1 if an answer was wrong. */
    void end() {
        System.out.println(asked + " answers, " + wrong + " not as due");
        if (wrong != 0 || asked == 0) {
            System.exit(1);
        }
    }
}
