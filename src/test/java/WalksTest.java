/** Promises 17 and 18: walk, walked. */
public final class WalksTest {
    private static final Checks CHECKS = new Checks();

    public static void main(String[] args) {
        stepsGoAlongBothSides();
        sixtyStepsAreADay();
        leastRunsOver();
        longWalksLastForDays();
        fewestStepsOfLikeOnes();
        firstOfLikeOnes();
        rainMakesRoom();
        foreseenResinHasItsGrade();
        walksEndWithTheDays();
        burntTreesDontRun();
        highTreesAreWalked();
        wrongWalksAreRefused();
        walksChangeNothing();
        CHECKS.end();
    }

    /** Fills the first cup of each tree, so that all that runs from then on runs over. */
    private static void fillCups(Woods w, int trees) {
        w.weather(w.count(0), w.count(0) + 14, 9, 0);
        for (int times = 0; times < 3; times++) {
            for (int tree = 0; tree < trees; tree++) {
                w.cut(tree, 0);
            }
            w.go(5);
        }
    }

    private static void stepsGoAlongBothSides() {
        Woods w = new Woods();
        w.tree(0, 1020, 100);
        w.tree(0, 9999, 100);
        CHECKS.due("along x and y", w.walked(1, 0, 525, 1), 5 + 5);
        CHECKS.due("no step", w.walked(1, 0, 1020, 1), 0);
        CHECKS.due("from corner to corner", w.walked(2, 0, 0, 1), 198);
        CHECKS.due("tree by tree", w.walked(3, 0, 0, 1), 30 + 89 + 79);
        CHECKS.due("the nearer one first", w.walk(3, 0, 0, 0), 0);
        CHECKS.due("the farther one then", w.walk(3, 0, 0, 1), 1);
        CHECKS.due("from the other corner", w.walk(3, 0, 9999, 0), 1);
    }

    private static void sixtyStepsAreADay() {
        Woods w = new Woods();
        w.tree(0, 0, 100);
        fillCups(w, 1);
        w.cut(0, 0);
        w.weather(15, 100, 9, 0);
        CHECKS.due("59 steps: no day ends", w.walked(1, 0, 59, 0), 0);
        CHECKS.due("60 steps: a day ends", w.walked(1, 0, 60, 0), 54);
        CHECKS.due("119 steps", w.walked(1, 0, 6059, 0), 54);
        CHECKS.due("120 steps", w.walked(1, 0, 6060, 0), 54 + 45);
        CHECKS.due("180 steps", w.walked(1, 0, 9090, 0), 54 + 45 + 36);
        CHECKS.due("what ran over ahead doesn't count", w.face(0, 0, 8), 140);
        w.empty(0);
        CHECKS.due("an empty cup takes it all", w.walked(1, 0, 9090, 0), 0);
    }

    private static void leastRunsOver() {
        Woods w = new Woods();
        w.tree(0, 0, 100);
        w.tree(0, 3030, 100);
        fillCups(w, 2);
        w.cut(0, 0);
        w.cut(1, 0);
        CHECKS.due("both are full: the nearer one is first", w.walk(3, 0, 500, 0), 0);
        CHECKS.due("a day's run at the other", w.walked(3, 0, 500, 0), 30);
        CHECKS.due("the short way", w.walked(3, 0, 500, 1), 5 + 60);
        w.empty(0);
        CHECKS.due("the farther one is full, so it is first", w.walk(3, 0, 500, 0), 1);
        CHECKS.due("then the nearer one", w.walk(3, 0, 500, 1), 0);
        CHECKS.due("though the way is longer", w.walked(3, 0, 500, 1), 55 + 60);
        CHECKS.due("nothing runs over", w.walked(3, 0, 500, 0), 0);
    }

    private static void longWalksLastForDays() {
        Woods w = new Woods();
        int[] corners = {0, 9900, 9999, 99};
        for (int where : corners) {
            w.tree(0, where, 100);
        }
        fillCups(w, 4);
        for (int tree = 0; tree < 4; tree++) {
            w.cut(tree, 0);
        }
        for (int k = 0; k < 4; k++) {
            CHECKS.due("corner " + k, w.walk(15, 0, 1010, k), k);
        }
        CHECKS.due("20, 119, 218, 317 steps", w.walked(15, 0, 1010, 1), 317);
        CHECKS.due("0, 1, 3 and 5 days", w.walked(15, 0, 1010, 0), 30 + 75 + 100);
    }

    private static void fewestStepsOfLikeOnes() {
        Woods w = new Woods();
        int[] places = {3000, 1000, 2000, 5000, 4000, 6000};
        for (int where : places) {
            w.tree(0, where, 100);
        }
        int[] order = {1, 2, 0, 4, 3, 5};
        for (int k = 0; k < 6; k++) {
            CHECKS.due("tree " + k + " along the line", w.walk(63, 0, 0, k), order[k]);
            CHECKS.due("tree " + k + " back along the line", w.walk(63, 0, 9900, k), order[5 - k]);
        }
        CHECKS.due("steps along the line", w.walked(63, 0, 0, 1), 60);
        CHECKS.due("steps back", w.walked(63, 0, 9900, 1), 89);
        CHECKS.due("no k 6", w.walk(63, 0, 0, 6), -1);
    }

    private static void firstOfLikeOnes() {
        Woods w = new Woods();
        int[] places = {5060, 5040, 5060, 5040, 5050, 5050};
        for (int where : places) {
            w.tree(0, where, 100);
        }
        int[] order = {0, 2, 4, 5, 1, 3};
        for (int k = 0; k < 6; k++) {
            CHECKS.due("tree " + k + " of like orders", w.walk(63, 0, 5050, k), order[k]);
        }
        CHECKS.due("steps", w.walked(63, 0, 5050, 1), 30);
        CHECKS.due("two like trees: the lower number", w.walk(10, 0, 0, 0), 1);
        CHECKS.due("then the higher one", w.walk(10, 0, 0, 1), 3);
    }

    private static void rainMakesRoom() {
        Woods w = new Woods();
        w.tree(0, 0, 100);
        fillCups(w, 1);
        w.cut(0, 0);
        w.weather(15, 15, 0, 9);
        CHECKS.due("36 are washed ahead of 25", w.walked(1, 0, 6060, 0), 0);
        CHECKS.due("then 20: nine over", w.walked(1, 0, 9090, 0), 9);
        w.weather(15, 15, 5, 9);
        CHECKS.due("the rain comes behind the running", w.walked(1, 0, 60, 0), 30);
        w.weather(16, 16, 9, 0);
        CHECKS.due("weather as it is told now", w.walked(1, 0, 6060, 0), 30 + 9);
    }

    private static void foreseenResinHasItsGrade() {
        Woods w = new Woods();
        w.tree(0, 0, 100);
        w.go(365);
        fillCups(w, 1);
        w.cut(0, 0);
        w.weather(380, 390, 5, 1);
        CHECKS.due("all is of grade 0, so four of 400 are washed each day", w.walked(1, 0, 9090, 0), 30 + 21 + 16);
        w.go(3);
        CHECKS.due("it comes as foreseen", w.face(0, 0, 8), 140 + 67);
    }

    private static void walksEndWithTheDays() {
        Woods w = new Woods();
        w.tree(0, 0, 100);
        while (w.count(0) < 3633) {
            w.go(Math.min(400, 3633 - w.count(0)));
        }
        fillCups(w, 1);
        w.cut(0, 0);
        CHECKS.due("now", w.count(0), 3648);
        CHECKS.due("two days are left", w.walked(1, 0, 9090, 0), 30 + 25);
        w.go(1);
        CHECKS.due("one day is left", w.walked(1, 0, 9090, 0), 25);
        w.go(1);
        CHECKS.due("none is left", w.walked(1, 0, 9090, 0), 0);
        CHECKS.due("steps are walked yet", w.walked(1, 0, 9090, 1), 180);
    }

    private static void burntTreesDontRun() {
        Woods w = new Woods();
        w.tree(0, 0, 100);
        w.tree(1, 0, 100);
        fillCups(w, 2);
        w.cut(0, 0);
        w.cut(1, 0);
        CHECKS.due("both run over", w.walked(3, 0, 60, 0), 60);
        w.burn(0);
        CHECKS.due("the burnt one doesn't", w.walked(3, 0, 60, 0), 30);
        CHECKS.due("it may be walked to", w.walk(3, 0, 60, 0), 0);
    }

    private static void highTreesAreWalked() {
        Woods w = new Woods();
        for (int i = 0; i < 60; i++) {
            w.tree(i % 6, i * 100, 100);
        }
        CHECKS.due("tree 29", w.walk(1 << 29, 0, 0, 0), 29);
        CHECKS.due("tree 30", w.walk(0, 1, 0, 0), 30);
        CHECKS.due("tree 59", w.walk(0, 1 << 29, 0, 0), 59);
        CHECKS.due("from above: 59 first", w.walk(1 << 29, 1 | 1 << 29, 9900, 0), 59);
        CHECKS.due("then 30", w.walk(1 << 29, 1 | 1 << 29, 9900, 1), 30);
        CHECKS.due("then 29", w.walk(1 << 29, 1 | 1 << 29, 9900, 2), 29);
        CHECKS.due("three trees", w.walk(1 << 29, 1 | 1 << 29, 9900, 3), -1);
        CHECKS.due("three and three", w.walked(7, 7, 0, 1), 32);
        CHECKS.due("three and four", w.walked(7, 15, 0, 1), -1);
        int[] wrong = {1 << 30, 1 << 31, 1 | 1 << 30, 1 | 1 << 31};
        for (int bits : wrong) {
            CHECKS.due("low has no bit above 29: " + bits, w.walk(bits, 0, 0, 0), -1);
            CHECKS.due("high neither: " + bits, w.walk(0, bits, 0, 0), -1);
        }
    }

    private static void wrongWalksAreRefused() {
        Woods w = new Woods();
        for (int i = 0; i < 8; i++) {
            w.tree(0, i, 100);
        }
        int[][] wrong = {
            {0, 0, 0}, {127, 0, 0}, {-1, -1, 0}, {-1, 0, 0}, {0, -1, 0}, {256, 0, 0}, {257, 0, 0}, {0, 1, 0},
            {1, 1, 0}, {1, 0, -1}, {1, 0, 10000}, {1, 0, Integer.MIN_VALUE}, {1, 0, Integer.MAX_VALUE},
        };
        for (int[] a : wrong) {
            String call = "(" + a[0] + ", " + a[1] + ", " + a[2] + ", ..)";
            CHECKS.due("walk" + call, w.walk(a[0], a[1], a[2], 0), -1);
            CHECKS.due("walked" + call + " over", w.walked(a[0], a[1], a[2], 0), -1);
            CHECKS.due("walked" + call + " steps", w.walked(a[0], a[1], a[2], 1), -1);
        }
        int[] none = {Integer.MIN_VALUE, -1, 2, 6, Integer.MAX_VALUE};
        for (int number : none) {
            CHECKS.due("k " + number, w.walk(3, 0, 0, number), -1);
            CHECKS.due("what " + number, w.walked(3, 0, 0, number), -1);
        }
        CHECKS.due("the last of six", w.walk(63, 0, 0, 5), 5);
        CHECKS.due("trees with gaps", w.walk(128 + 2, 0, 9, 0), 7);
    }

    private static void walksChangeNothing() {
        Woods w = new Woods();
        w.tree(0, 0, 100);
        fillCups(w, 1);
        w.cut(0, 0);
        int[] before = new int[11];
        for (int what = 0; what <= 10; what++) {
            before[what] = w.count(what);
        }
        w.walked(1, 0, 9999, 0);
        w.walk(1, 0, 9999, 0);
        for (int what = 0; what <= 10; what++) {
            CHECKS.due("count " + what, w.count(what), before[what]);
        }
        CHECKS.due("in the cup", w.face(0, 0, 3), 400);
        CHECKS.due("what ran over", w.face(0, 0, 8), 140);
        w.go(1);
        CHECKS.due("a day's run", w.face(0, 0, 8), 170);
    }
}
