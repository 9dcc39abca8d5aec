/** "Terms", the fourth part: WALKS and the BEST ORDER, sentence by sentence. */
public final class TermsWalksTest {
    private static final Checks CHECKS = new Checks();

    public static void main(String[] args) {
        walksAreFor1To6Trees();
        stepsGoAlongXAndY();
        stepsAreAddedTreeByTree();
        sixtyStepsAreADay();
        tenDaysOfALongWalk();
        ordersOf19Days();
        daysArentAbove3650();
        runOverIsOfEachTree();
        runOverIsUpToThere();
        nothingIsCutMeanwhile();
        weatherIsAsItIsTold();
        foreseenGradesAreWashedApart();
        leastRunsOverThoughTheWayIsLonger();
        fewestStepsOfLikeOnes();
        firstOrderOfLikeOnes();
        firstByNumbersNotByBits();
        CHECKS.end();
    }

    /** A tree with so many faces, whose cups have room for so much more. */
    private static void grow(Woods w, int where, int faces, int room) {
        int tree = w.tree(0, where, 220);
        for (int face = 0; face < faces; face++) {
            w.fill(tree, face, 400 - room);
        }
    }

    private static Woods withTreesAt(int... places) {
        Woods w = new Woods();
        for (int where : places) {
            w.tree(0, where, 100);
        }
        return w;
    }

    private static void dueOrder(Woods w, int low, int where, int... order) {
        for (int k = 0; k < order.length; k++) {
            CHECKS.due("tree " + k + " from " + where, w.walk(low, 0, where, k), order[k]);
        }
        CHECKS.due("no tree behind the last one", w.walk(low, 0, where, order.length), -1);
    }

    private static void walksAreFor1To6Trees() {
        CHECKS.sentence("A WALK: for 1 to 6 TREES");
        Woods w = withTreesAt(1, 2, 3, 4, 5, 6, 7);
        CHECKS.due("0", w.walked(0, 0, 0, 1), -1);
        CHECKS.due("1", w.walked(1, 0, 0, 1), 1);
        CHECKS.due("6", w.walked(63, 0, 0, 1), 6);
        CHECKS.due("7", w.walked(127, 0, 0, 1), -1);
        CHECKS.due("6 others", w.walked(126, 0, 0, 1), 7);
    }

    private static void stepsGoAlongXAndY() {
        CHECKS.sentence("from a PLACE on, along x and along y (so many STEPS as both differ)");
        Woods w = withTreesAt(5050);
        int[] places = {5050, 4950, 5150, 5049, 5051, 4949, 5151, 4951, 5149, 0, 9999, 99, 9900};
        int[] steps = {0, 1, 1, 1, 1, 2, 2, 2, 2, 100, 98, 99, 99};
        for (int i = 0; i < places.length; i++) {
            CHECKS.due("from " + places[i], w.walked(1, 0, places[i], 1), steps[i]);
        }
        CHECKS.due("from corner to corner", withTreesAt(0).walked(1, 0, 9999, 1), 198);
        CHECKS.due("from corner to corner, back", withTreesAt(9999).walked(1, 0, 0, 1), 198);
    }

    private static void stepsAreAddedTreeByTree() {
        CHECKS.sentence("from a PLACE on, along x and along y");
        Woods w = withTreesAt(1010, 2005, 2030);
        CHECKS.due("20, 15 and 25", w.walked(7, 0, 0, 1), 20 + 15 + 25);
        dueOrder(w, 7, 0, 0, 1, 2);
    }

    private static void sixtyStepsAreADay() {
        CHECKS.sentence("60 STEPS a DAY: a TREE to which one comes behind s STEPS is EMPTIED ahead of the end of the"
            + " DAY that is s by 60 (cut) later than NOW");
        Woods w = new Woods();
        w.calm();
        grow(w, 0, 1, 0);
        w.cut(0, 0);
        w.weather(w.now(), w.now() + 9, 1, 0);
        int[] places = {0, 59, 60, 2099, 2199, 8099, 8199, 9999};
        int[] steps = {0, 59, 60, 119, 120, 179, 180, 198};
        int[] over = {0, 0, 6, 6, 11, 11, 15, 15};
        for (int i = 0; i < places.length; i++) {
            CHECKS.due("steps from " + places[i], w.walked(1, 0, places[i], 1), steps[i]);
            CHECKS.due("over behind " + steps[i] + " steps", w.walked(1, 0, places[i], 0), over[i]);
        }
    }

    /** What makes this order the best one: trees 0 and 3 would run over from three cups a day later. */
    private static void tenDaysOfALongWalk() {
        CHECKS.sentence("the DAY that is s by 60 (cut) later than NOW");
        Woods w = new Woods();
        w.calm();
        grow(w, 2016, 3, 54);
        grow(w, 9999, 1, 216);
        grow(w, 8580, 2, 85);
        grow(w, 0, 3, 189);
        for (int tree = 0; tree < 4; tree++) {
            w.cutFaces(tree, tree == 1 ? 1 : tree == 2 ? 2 : 3);
        }
        w.weather(w.now(), w.now() + 30, 9, 0);
        dueOrder(w, 15, 6182, 0, 2, 3, 1);
        CHECKS.due("107, 236, 401, 599 steps", w.walked(15, 0, 6182, 1), 599);
        CHECKS.due("1, 3, 6, 9 days: 0, 2 * 50, 0, 0", w.walked(15, 0, 6182, 0), 100);
        dueOrder(w, 15, 6282, 0, 2, 3, 1);
        CHECKS.due("108, 237, 402, 600 steps", w.walked(15, 0, 6282, 1), 600);
        CHECKS.due("1, 3, 6, 10 days: 0, 2 * 50, 0, 9", w.walked(15, 0, 6282, 0), 109);
    }

    /** Trees 0, 2, 4 stand in one corner, 1, 3, 5 in the other; only 0 and 5 run. From and back takes 19 days. */
    private static void ordersOf19Days() {
        CHECKS.sentence("of all ORDERS that with the least RUN OVER");
        Woods w = new Woods();
        w.calm();
        grow(w, 9999, 3, 99);
        for (int tree = 1; tree <= 4; tree++) {
            w.tree(0, tree % 2 == 0 ? 9999 : 0, 220);
        }
        grow(w, 0, 1, 180);
        w.cutFaces(0, 3);
        w.cut(5, 0);
        w.weather(w.now(), w.now() + 30, 9, 0);
        CHECKS.due("tree 0 behind 2 days: 0; tree 5 behind 6: 9", w.walked(63, 0, 1011, 0), 9);
        CHECKS.due("there and back once", w.walked(63, 0, 1011, 1), 177 + 198);
        dueOrder(w, 63, 1011, 0, 2, 4, 1, 3, 5);
    }

    private static void daysArentAbove3650() {
        CHECKS.sentence("(not above 3650)");
        Woods w = new Woods();
        w.calm();
        grow(w, 0, 1, 0);
        w.goTo(3647);
        w.weather(3647, 3649, 1, 0);
        w.cut(0, 0);
        int[][] over = {{6, 11, 15}, {5, 9, 9}, {4, 4, 4}, {0, 0, 0}};
        for (int[] wanted : over) {
            CHECKS.due("now " + w.now() + ", a day", w.walked(1, 0, 60, 0), wanted[0]);
            CHECKS.due("now " + w.now() + ", two days", w.walked(1, 0, 6060, 0), wanted[1]);
            CHECKS.due("now " + w.now() + ", three days", w.walked(1, 0, 9090, 0), wanted[2]);
            w.go(1);
        }
        CHECKS.due("steps go on", w.walked(1, 0, 9090, 1), 180);
    }

    private static void runOverIsOfEachTree() {
        CHECKS.sentence("RUN OVER by an ORDER of them: what RUNS OVER, up to there, at each of them");
        Woods w = new Woods();
        w.calm();
        grow(w, 0, 3, 0);
        grow(w, 0, 1, 2);
        grow(w, 0, 1, 0);
        w.cutFaces(0, 3);
        w.cut(1, 0);
        w.cut(2, 0);
        w.weather(w.now(), w.now() + 9, 1, 0);
        CHECKS.due("three cups of a tree", w.walked(1, 0, 60, 0), 18);
        CHECKS.due("room for two", w.walked(2, 0, 60, 0), 4);
        CHECKS.due("both", w.walked(3, 0, 60, 0), 22);
        CHECKS.due("all", w.walked(7, 0, 60, 0), 28);
        CHECKS.due("all but the first", w.walked(6, 0, 60, 0), 10);
        w.go(1);
        CHECKS.due("what ran over ahead of it doesn't count", w.walked(3, 0, 60, 0), 15 + 5);
    }

    private static void runOverIsUpToThere() {
        CHECKS.sentence("what RUNS OVER, up to there");
        Woods w = new Woods();
        w.calm();
        grow(w, 0, 1, 0);
        grow(w, 60, 1, 0);
        w.cut(0, 0);
        w.cut(1, 0);
        w.weather(w.now(), w.now() + 9, 1, 0);
        CHECKS.due("the first at once, the second behind a day", w.walked(3, 0, 0, 0), 6);
        CHECKS.due("a day, and two", w.walked(3, 0, 6000, 0), 6 + 11);
    }

    private static void nothingIsCutMeanwhile() {
        CHECKS.sentence("if nothing is cut meanwhile");
        Woods w = new Woods();
        w.calm();
        grow(w, 0, 1, 0);
        w.cut(0, 0);
        w.go(8);
        w.weather(w.now(), w.now() + 9, 1, 0);
        CHECKS.due("the ninth day", w.walked(1, 0, 60, 0), 1);
        CHECKS.due("the tenth day", w.walked(1, 0, 6060, 0), 2);
        CHECKS.due("nothing runs on the eleventh", w.walked(1, 0, 9090, 0), 2);
        w.cut(0, 0);
        CHECKS.due("a streak of now counts", w.walked(1, 0, 9090, 0), 15);
    }

    private static void weatherIsAsItIsTold() {
        CHECKS.sentence("by WARMTH and RAIN as they are told");
        Woods w = new Woods();
        w.calm();
        grow(w, 0, 1, 0);
        w.cut(0, 0);
        int now = w.now();
        CHECKS.due("no warmth", w.walked(1, 0, 9090, 0), 0);
        w.weather(now + 1, now + 1, 9, 0);
        CHECKS.due("warmth of the second day, behind one", w.walked(1, 0, 60, 0), 0);
        CHECKS.due("warmth of the second day, behind two", w.walked(1, 0, 6060, 0), 45);
        w.weather(now, now, 0, 9);
        CHECKS.due("36 are washed ahead of it", w.walked(1, 0, 6060, 0), 9);
        w.weather(now, now, 1, 9);
        CHECKS.due("6 run over ahead of the rain", w.walked(1, 0, 6060, 0), 6 + 9);
        w.weather(now + 1, now + 1, 9, 9);
        CHECKS.due("rain behind it", w.walked(1, 0, 6060, 0), 6 + 9);
        w.weather(now + 2, now + 2, 9, 9);
        CHECKS.due("the third day finds room for 36 of 36", w.walked(1, 0, 9090, 0), 6 + 9);
        w.go(3);
        CHECKS.due("it comes as foreseen", w.face(0, 0, 8), 6 + 9);
    }

    private static void foreseenGradesAreWashedApart() {
        CHECKS.sentence("what RUNS OVER, up to there, at each of them, if nothing is cut meanwhile,"
            + " by WARMTH and RAIN as they are told.");
        Woods w = new Woods();
        w.tree(0, 0, 100);
        w.calm();
        w.goTo(365);
        w.fill(0, 0, 231);
        w.goTo(730);
        w.fill(0, 0, 70);
        w.goTo(1094);
        w.cut(0, 0);
        w.weather(1094, 1094, 9, 0);
        w.weather(1095, 1095, 9, 1);
        w.weather(1096, 1096, 9, 0);
        CHECKS.due("231, 124 and 45: 400", w.walked(1, 0, 6060, 0), 0);
        CHECKS.due("two of 231, one of 124, none of 45 are washed: 36 come to 397", w.walked(1, 0, 9090, 0), 33);
        w.go(3);
        CHECKS.due("it comes as foreseen", w.face(0, 0, 8), 33);
        CHECKS.due("its grade", w.face(0, 0, 6), 45 + 3);
    }

    /** From 500: tree 0 is 5 steps off, tree 1 is 55, and 60 lie between them; all behind 60 steps is a day later. */
    private static void dueNearAndFar(int nearRoom, int farRoom, int first, int over, int steps) {
        Woods w = new Woods();
        w.calm();
        grow(w, 0, 1, nearRoom);
        grow(w, 3030, 1, farRoom);
        w.cut(0, 0);
        w.cut(1, 0);
        w.go(5);
        w.weather(w.now(), w.now(), 1, 0);
        dueOrder(w, 3, 500, first, 1 - first);
        CHECKS.due("over", w.walked(3, 0, 500, 0), over);
        CHECKS.due("steps", w.walked(3, 0, 500, 1), steps);
    }

    private static void leastRunsOverThoughTheWayIsLonger() {
        CHECKS.sentence("The BEST ORDER: of all ORDERS that with the least RUN OVER");
        dueNearAndFar(1, 0, 1, 0, 55 + 60);
        dueNearAndFar(0, 1, 0, 0, 5 + 60);
        dueNearAndFar(1, 1, 0, 0, 5 + 60);
        dueNearAndFar(0, 0, 0, 1, 5 + 60);
    }

    private static void fewestStepsOfLikeOnes() {
        CHECKS.sentence("of like ones that with the fewest STEPS");
        Woods w = withTreesAt(0, 21);
        dueOrder(w, 3, 10, 0, 1);
        CHECKS.due("10 and 21, not 11 and 21", w.walked(3, 0, 10, 1), 31);
        dueOrder(w, 3, 11, 1, 0);
        CHECKS.due("10 and 21 from the other side", w.walked(3, 0, 11, 1), 31);
        Woods line = withTreesAt(30, 10, 50, 20, 60, 40);
        dueOrder(line, 63, 0, 1, 3, 0, 5, 2, 4);
        dueOrder(line, 63, 99, 4, 2, 5, 0, 3, 1);
        CHECKS.due("along the line", line.walked(63, 0, 0, 1), 60);
    }

    private static void firstOrderOfLikeOnes() {
        CHECKS.sentence("of like ones the first one (by numbers from the first TREE on).");
        Woods two = withTreesAt(5060, 5040);
        dueOrder(two, 3, 5050, 0, 1);
        Woods other = withTreesAt(5040, 5060);
        dueOrder(other, 3, 5050, 0, 1);
        Woods three = withTreesAt(5060, 5040, 5050);
        dueOrder(three, 7, 5050, 0, 2, 1);
        Woods last = withTreesAt(5050, 5060, 5040);
        dueOrder(last, 7, 5050, 0, 1, 2);
        Woods same = withTreesAt(7, 7, 7, 7, 7, 7);
        dueOrder(same, 63, 7, 0, 1, 2, 3, 4, 5);
        Woods pairs = withTreesAt(5040, 5060, 5040, 5060);
        dueOrder(pairs, 15, 5050, 0, 2, 1, 3);
    }

    private static void firstByNumbersNotByBits() {
        CHECKS.sentence("by numbers from the first TREE on");
        Woods w = new Woods();
        for (int tree = 0; tree < 60; tree++) {
            w.tree(0, tree % 2 == 0 ? 5060 : 5040, 100);
        }
        CHECKS.due("9 of 9, 10", w.walk(1 << 9 | 1 << 10, 0, 5050, 0), 9);
        CHECKS.due("29 of 29, 30", w.walk(1 << 29, 1, 5050, 0), 29);
        CHECKS.due("then 30", w.walk(1 << 29, 1, 5050, 1), 30);
        CHECKS.due("0 of 0, 59", w.walk(1, 1 << 29, 5050, 0), 0);
        CHECKS.due("58 of 58, 59", w.walk(0, 3 << 28, 5050, 0), 58);
    }
}
