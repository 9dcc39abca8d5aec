/** Counts the answers that are not the ones that are due, and tells each of them. */
final class Checks {
    private int asked = 0;
    private int wrong = 0;
    private String cited = "";

    /** The words of the document that the answers from here on are asked for; CitedTest looks for them there. */
    void sentence(String words) {
        cited = "\"" + words + "\": ";
    }

    void due(String what, long got, long want) {
        asked++;
        if (got != want) {
            wrong++;
            System.out.println(cited + what + ": answered " + got + ", due is " + want);
        }
    }

    void holds(String what, boolean got) {
        due(what, got ? 1 : 0, 1);
    }

    void fails(String what, boolean got) {
        due(what, got ? 1 : 0, 0);
    }

    /** To be called last: the exit code is 1 if an answer was wrong. */
    void end() {
        System.out.println(asked + " answers, " + wrong + " not as due");
        if (wrong != 0 || asked == 0) {
            System.exit(1);
        }
    }
}
