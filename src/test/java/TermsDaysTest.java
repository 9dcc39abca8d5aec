/** "Terms", the second part: how a DAY ends, and BURNT TREES, sentence by sentence. */
public final class TermsDaysTest {
    private static final Checks CHECKS = new Checks();

    public static void main(String[] args) {
        warmthTimesStrengthRuns();
        strengthOnEachOfTheDays();
        strengthIsOfTheLatestStreak();
        strengthGoesOnOverTheNewYear();
        gradeIsYearsSinceTheOpening();
        gradeChangesWithTheYear();
        gradeIs3AtMost();
        cupHolds400();
        cupHolds400OfAllGrades();
        fullCupRunsOver();
        eachFaceHasACup();
        rainWashesPartsOf100();
        rainWashesEachGradeApart();
        rainWashesEachCupApart();
        rainFallsBehindTheRunning();
        nowIsOneMore();
        burntTreesDontRun();
        whatCupsHadIsBurnt();
        burntWoodsArentLet();
        nothingIsCutOnBurntTrees();
        CHECKS.end();
    }

    private static Woods calmWithTree(int girth) {
        Woods w = new Woods();
        w.tree(0, 0, girth);
        w.calm();
        return w;
    }

    private static void warmthTimesStrengthRuns() {
        CHECKS.sentence("A DAY ends so: (1) FACES run, TREES by numbers: WARMTH of the DAY times STRENGTH");
        for (int warmth = 0; warmth <= 9; warmth++) {
            Woods w = new Woods();
            w.weather(0, 0, warmth, 0);
            w.tree(0, 0, 150);
            w.tree(1, 0, 150);
            w.cutFaces(0, 2);
            w.cutFaces(1, 1);
            w.go(1);
            CHECKS.due("face 0 of tree 0", w.face(0, 0, 3), 6 * warmth);
            CHECKS.due("face 1 of tree 0", w.face(0, 1, 3), 6 * warmth);
            CHECKS.due("face 0 of tree 1", w.face(1, 0, 3), 6 * warmth);
            CHECKS.due("a face that isn't open doesn't run", w.count(3), 18 * warmth);
        }
    }

    private static final int[] STRENGTH = {6, 5, 4, 3, 2, 1, 1, 1, 1, 1, 0, 0, 0};

    /** What runs on one day alone, if a streak was cut so many days ahead of it. */
    private static int runs(int streakOn, int daysBehind, int warmth) {
        Woods w = calmWithTree(100);
        w.weather(streakOn + daysBehind, streakOn + daysBehind, warmth, 0);
        w.goTo(streakOn);
        w.cut(0, 0);
        w.go(20);
        return w.count(3);
    }

    private static void strengthOnEachOfTheDays() {
        CHECKS.sentence("that is 6, 5, 4, 3, 2 on the DAY of the latest STREAK and the four DAYS behind it,"
            + " 1 on the five behind these, then 0.");
        for (int behind = 0; behind < STRENGTH.length; behind++) {
            CHECKS.due(behind + " days behind, warmth 1", runs(0, behind, 1), STRENGTH[behind]);
            CHECKS.due(behind + " days behind, warmth 9", runs(17, behind, 9), 9 * STRENGTH[behind]);
        }
    }

    private static void strengthIsOfTheLatestStreak() {
        CHECKS.sentence("on the DAY of the latest STREAK and the four DAYS behind it");
        for (int behind = 0; behind < STRENGTH.length; behind++) {
            Woods w = calmWithTree(150);
            w.weather(7 + behind, 7 + behind, 1, 0);
            w.cut(0, 0);
            w.go(7);
            CHECKS.due("a second streak", w.cut(0, 0), 2);
            w.go(20);
            CHECKS.due(behind + " days behind it", w.face(0, 0, 3), STRENGTH[behind]);
        }
        Woods w = calmWithTree(150);
        w.weather(7, 7, 1, 0);
        w.cut(0, 0);
        w.go(7);
        w.cut(0, 1);
        w.go(1);
        CHECKS.due("another face's streak doesn't count", w.face(0, 0, 3), 1);
    }

    private static void strengthGoesOnOverTheNewYear() {
        CHECKS.sentence("the four DAYS behind it, 1 on the five behind these, then 0");
        for (int behind = 0; behind < STRENGTH.length; behind++) {
            CHECKS.due(behind + " days behind day 361", runs(361, behind, 1), STRENGTH[behind]);
        }
    }

    private static void dueGrades(String what, Woods w, int tree, int[] want) {
        for (int grade = 0; grade < 4; grade++) {
            CHECKS.due(what + ": grade " + grade, w.face(tree, 0, 4 + grade), want[grade]);
        }
    }

    private static void gradeIsYearsSinceTheOpening() {
        CHECKS.sentence("What runs is of GRADE: YEARS since the YEAR in which the FACE was opened, 3 at most.");
        int[][] want = {{6, 0, 0, 0}, {0, 6, 0, 0}, {0, 0, 6, 0}, {0, 0, 0, 6}, {0, 0, 0, 6}, {0, 0, 0, 6}};
        for (int opened = 0; opened <= 1; opened++) {
            for (int years = 0; years < want.length; years++) {
                Woods w = calmWithTree(100);
                w.goTo(opened * 365);
                w.cut(0, 0);
                int day = (opened + years) * 365 + 10;
                w.goTo(day);
                w.weather(day, day, 1, 0);
                w.cut(0, 0);
                w.go(1);
                dueGrades("opened in year " + opened + ", " + years + " years ago", w, 0, want[years]);
            }
        }
    }

    private static void gradeChangesWithTheYear() {
        CHECKS.sentence("YEARS since the YEAR in which the FACE was opened");
        Woods w = calmWithTree(100);
        w.tree(0, 0, 100);
        w.weather(364, 365, 1, 0);
        w.weather(729, 730, 1, 0);
        w.goTo(364);
        w.cut(0, 0);
        w.go(1);
        dueGrades("opened on the year's last day", w, 0, new int[] {6, 0, 0, 0});
        w.cut(1, 0);
        w.go(1);
        dueGrades("a day later, in the next year", w, 0, new int[] {6, 5, 0, 0});
        dueGrades("opened on the year's first day", w, 1, new int[] {6, 0, 0, 0});
        w.goTo(729);
        w.cut(1, 0);
        w.go(1);
        dueGrades("364 days later, in the same year", w, 1, new int[] {12, 0, 0, 0});
        w.go(1);
        dueGrades("365 days later", w, 1, new int[] {12, 5, 0, 0});
    }

    private static void gradeIs3AtMost() {
        CHECKS.sentence("3 at most");
        Woods w = calmWithTree(100);
        int[] days = {1094, 1095, 1459, 1460, 3649};
        int[][] want = {{0, 0, 6, 0}, {0, 0, 6, 5}, {0, 0, 6, 11}, {0, 0, 6, 16}, {0, 0, 6, 22}};
        w.cut(0, 0);
        for (int i = 0; i < days.length; i++) {
            w.goTo(days[i]);
            w.cut(0, 0);
            w.weather(days[i], days[i], 1, 0);
            w.go(1);
            dueGrades("day " + days[i] + " of a face opened on day 0", w, 0, want[i]);
        }
    }

    private static void dueCup(Woods w, int has, int ranOver) {
        CHECKS.due("the cup has", w.face(0, 0, 3), has);
        CHECKS.due("ran over", w.face(0, 0, 8), ranOver);
        CHECKS.due("of all faces", w.count(4), ranOver);
    }

    private static void cupHolds400() {
        CHECKS.sentence("It comes to the FACE's CUP, which holds 400 of all GRADES; what is more RUNS OVER.");
        Woods less = calmWithTree(100);
        less.fill(0, 0, 399);
        dueCup(less, 399, 0);
        Woods full = calmWithTree(100);
        full.fill(0, 0, 400);
        dueCup(full, 400, 0);
        Woods more = calmWithTree(100);
        more.fill(0, 0, 401);
        dueCup(more, 400, 1);
        CHECKS.due("what ran", more.count(3), 401);
    }

    private static void cupHolds400OfAllGrades() {
        CHECKS.sentence("which holds 400 of all GRADES");
        for (int more = 0; more <= 1; more++) {
            Woods w = calmWithTree(100);
            w.fill(0, 0, 150);
            w.goTo(365);
            w.fill(0, 0, 150);
            w.goTo(730);
            w.fill(0, 0, 99);
            w.goTo(1095);
            w.fill(0, 0, 1 + more);
            dueCup(w, 400, more);
            dueGrades("400 of four grades and " + more, w, 0, new int[] {150, 150, 99, 1});
        }
    }

    private static void fullCupRunsOver() {
        CHECKS.sentence("what is more RUNS OVER");
        Woods w = calmWithTree(100);
        w.fill(0, 0, 400);
        w.fill(0, 0, 1);
        dueCup(w, 400, 1);
        w.fill(0, 0, 225);
        dueCup(w, 400, 226);
        w.empty(0);
        dueCup(w, 0, 226);
        w.fill(0, 0, 7);
        dueCup(w, 7, 226);
    }

    private static void eachFaceHasACup() {
        CHECKS.sentence("It comes to the FACE's CUP");
        Woods w = calmWithTree(220);
        w.tree(0, 0, 100);
        w.fill(0, 0, 401);
        w.fill(0, 1, 400);
        w.fill(0, 2, 2);
        w.fill(1, 0, 3);
        int[] has = {400, 400, 2};
        for (int face = 0; face < 3; face++) {
            CHECKS.due("cup of face " + face, w.face(0, face, 3), has[face]);
            CHECKS.due("ran over at face " + face, w.face(0, face, 8), face == 0 ? 1 : 0);
        }
        CHECKS.due("another tree's cup", w.face(1, 0, 3), 3);
    }

    /** What rain leaves of so much in a cup. */
    private static int left(int amount, int rain) {
        Woods w = calmWithTree(100);
        w.fill(0, 0, amount);
        w.weather(w.now(), w.now(), 0, rain);
        w.go(1);
        CHECKS.due("in the cup or washed", w.face(0, 0, 3) + w.count(5), amount);
        CHECKS.due("the grade is the cup", w.face(0, 0, 4), w.face(0, 0, 3));
        CHECKS.due("nothing runs over by it", w.count(4), 0);
        return w.face(0, 0, 3);
    }

    private static void rainWashesPartsOf100() {
        CHECKS.sentence("(2) RAIN: of each GRADE in each CUP so many parts of 100 as RAIN tells are WASHED away (cut).");
        CHECKS.due("9 of 100 of 11: none", left(11, 9), 11);
        CHECKS.due("9 of 100 of 12: one", left(12, 9), 11);
        CHECKS.due("9 of 100 of 22: one", left(22, 9), 21);
        CHECKS.due("9 of 100 of 23: two", left(23, 9), 21);
        CHECKS.due("9 of 100 of 400", left(400, 9), 364);
        CHECKS.due("1 of 100 of 99: none", left(99, 1), 99);
        CHECKS.due("1 of 100 of 100: one", left(100, 1), 99);
        CHECKS.due("1 of 100 of 199: one", left(199, 1), 198);
        CHECKS.due("5 of 100 of 19: none", left(19, 5), 19);
        CHECKS.due("5 of 100 of 20: one", left(20, 5), 19);
        CHECKS.due("0 of 100 of 400: none", left(400, 0), 400);
        CHECKS.due("9 of 100 of 1: none", left(1, 9), 1);
    }

    private static void rainWashesEachGradeApart() {
        CHECKS.sentence("of each GRADE in each CUP so many parts of 100 as RAIN tells");
        Woods w = calmWithTree(100);
        w.fill(0, 0, 99);
        w.goTo(365);
        w.fill(0, 0, 99);
        w.goTo(730);
        w.fill(0, 0, 100);
        w.goTo(1095);
        w.fill(0, 0, 99);
        w.weather(w.now(), w.now(), 0, 1);
        w.go(1);
        dueGrades("1 of 100 of 99, 99, 100, 99", w, 0, new int[] {99, 99, 99, 99});
        w.weather(w.now(), w.now(), 0, 9);
        w.go(1);
        dueGrades("9 of 100 of each", w, 0, new int[] {91, 91, 91, 91});
        CHECKS.due("washed", w.count(5), 1 + 4 * 8);
        CHECKS.due("the cup", w.face(0, 0, 3), 4 * 91);
    }

    private static void rainWashesEachCupApart() {
        CHECKS.sentence("in each CUP so many parts of 100 as RAIN tells are WASHED away (cut)");
        Woods w = calmWithTree(220);
        w.tree(1, 0, 100);
        w.fill(0, 0, 99);
        w.fill(0, 1, 99);
        w.fill(0, 2, 100);
        w.fill(1, 0, 101);
        w.weather(w.now(), w.now(), 0, 1);
        w.go(1);
        CHECKS.due("99", w.face(0, 0, 3), 99);
        CHECKS.due("99 of another face", w.face(0, 1, 3), 99);
        CHECKS.due("100 of another face", w.face(0, 2, 3), 99);
        CHECKS.due("101 of another tree and wood", w.face(1, 0, 3), 100);
        CHECKS.due("washed", w.count(5), 2);
    }

    private static void rainFallsBehindTheRunning() {
        CHECKS.sentence("(2) RAIN: of each GRADE");
        Woods w = calmWithTree(100);
        w.weather(0, 0, 2, 9);
        w.cut(0, 0);
        w.go(1);
        CHECKS.due("12 of the same day: one is washed", w.face(0, 0, 3), 11);
        Woods full = calmWithTree(100);
        full.fill(0, 0, 400);
        full.cut(0, 0);
        full.weather(full.now(), full.now(), 1, 9);
        full.go(1);
        CHECKS.due("a full cup runs over ahead of the rain", full.face(0, 0, 8), 6);
        CHECKS.due("then the rain makes room", full.face(0, 0, 3), 364);
        full.weather(full.now(), full.now(), 8, 9);
        full.go(1);
        CHECKS.due("40 come to 364: four are over", full.face(0, 0, 8), 6 + 4);
    }

    private static void nowIsOneMore() {
        CHECKS.sentence("(3) NOW is one more.");
        Woods w = calmWithTree(100);
        for (int day = 1; day <= 3; day++) {
            CHECKS.due("a day ends", w.go(1), day);
            CHECKS.due("now", w.count(0), day);
        }
        w.cut(0, 0);
        CHECKS.due("a streak's day", w.face(0, 0, 1), 3);
        w.goTo(364);
        w.go(1);
        CHECKS.due("over the new year", w.count(0), 365);
    }

    private static void burntTreesDontRun() {
        CHECKS.sentence("BURNT TREES don't run");
        Woods w = new Woods();
        w.tree(0, 0, 220);
        w.tree(1, 0, 100);
        w.cutFaces(0, 3);
        w.cut(1, 0);
        w.go(1);
        w.burn(0);
        w.go(1);
        for (int face = 0; face < 3; face++) {
            CHECKS.due("burnt: face " + face, w.face(0, face, 3), 0);
        }
        CHECKS.due("another wood's tree runs", w.face(1, 0, 3), 55);
        CHECKS.due("what ran", w.count(3), 4 * 30 + 25);
    }

    private static void whatCupsHadIsBurnt() {
        CHECKS.sentence("what their CUPS had is BURNT");
        Woods w = calmWithTree(220);
        w.tree(1, 0, 100);
        w.tree(0, 0, 100);
        w.fill(0, 0, 401);
        w.fill(0, 1, 9);
        w.fill(1, 0, 50);
        w.fill(2, 0, 70);
        w.empty(2);
        w.fill(2, 0, 5);
        w.burn(0);
        CHECKS.due("burnt", w.count(6), 400 + 9 + 5);
        for (int what = 3; what <= 7; what++) {
            CHECKS.due("face 0, " + what, w.face(0, 0, what), 0);
            CHECKS.due("face 1, " + what, w.face(0, 1, what), 0);
            CHECKS.due("the other tree, " + what, w.face(2, 0, what), 0);
        }
        CHECKS.due("in cups is another wood's", w.count(7), 50);
        CHECKS.due("what was emptied isn't burnt", w.barrel(0, 0), 70);
        CHECKS.due("what ran over is told yet", w.face(0, 0, 8), 1);
    }

    private static void burntWoodsArentLet() {
        CHECKS.sentence("their WOOD isn't LET any more");
        Woods w = calmWithTree(100);
        w.tree(1, 0, 100);
        w.let(0, 100);
        w.let(1, 100);
        w.fill(0, 0, 50);
        w.fill(1, 0, 60);
        w.empty(0);
        w.empty(1);
        CHECKS.due("due ahead", w.due(0), 50);
        w.burn(0);
        CHECKS.due("nothing is due", w.due(0), 0);
        CHECKS.due("nothing can be paid", w.pay(0), -2147483648);
        CHECKS.due("another wood is let", w.due(1), 60);
        CHECKS.due("and paid for", w.pay(1), 0);
    }

    private static void nothingIsCutOnBurntTrees() {
        CHECKS.sentence("nothing can be cut there");
        Woods w = calmWithTree(150);
        w.tree(1, 0, 150);
        w.cut(0, 0);
        w.cut(1, 0);
        w.burn(0);
        w.go(5);
        CHECKS.due("on a face", w.cut(0, 0), -1);
        CHECKS.due("on the next one", w.cut(0, 1), -1);
        CHECKS.due("in another wood", w.cut(1, 0), 2);
    }
}
