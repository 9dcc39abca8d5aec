/** Promises 17 to 19, clause by clause: what is promised, and when a call is refused. */
public final class ClausesWalksTest {
    private static final Checks CHECKS = new Checks();
    private static final int LEAST = Integer.MIN_VALUE;
    private static final int MOST = Integer.MAX_VALUE;

    public static void main(String[] args) {
        walkTells();
        walkBits();
        walkFromAPlace();
        walkNot1To6();
        walkToNoTree();
        walkFromNoPlace();
        walkNoK();
        walkedTells();
        walkedLikewise();
        countTells();
        countRunning();
        countBarrels();
        countOther();
        CHECKS.end();
    }

    /** Trees along y, from 1 on. */
    private static Woods withTrees(int many) {
        Woods w = new Woods();
        for (int tree = 0; tree < many; tree++) {
            w.tree(tree % 6, tree + 1, 100);
        }
        return w;
    }

    private static void walkTells() {
        CHECKS.sentence("The BEST ORDER of TREES");
        Woods w = new Woods();
        int[] places = {4000, 1000, 3000, 2000};
        for (int where : places) {
            w.tree(0, where, 100);
        }
        int[] order = {1, 3, 2, 0};
        for (int k = 0; k < 4; k++) {
            CHECKS.due("tree " + k, w.walk(15, 0, 0, k), order[k]);
            CHECKS.due("tree " + k + ", back", w.walk(15, 0, 9900, k), order[3 - k]);
        }
        w.burn(0);
        CHECKS.due("burnt trees too", w.walk(15, 0, 0, 0), 1);
    }

    private static void walkBits() {
        CHECKS.sentence("(bits; low for 0 .. 29, high for 30 .. 59)");
        Woods w = withTrees(60);
        for (int bit = 0; bit < 30; bit++) {
            CHECKS.due("low", w.walk(1 << bit, 0, 0, 0), bit);
            CHECKS.due("high", w.walk(0, 1 << bit, 0, 0), 30 + bit);
        }
        CHECKS.due("both", w.walk(1 << 29, 1, 99, 0), 30);
        CHECKS.due("both, then", w.walk(1 << 29, 1, 99, 1), 29);
        for (int bit = 30; bit < 32; bit++) {
            CHECKS.due("low has no bit " + bit, w.walk(1 << bit, 0, 0, 0), -1);
            CHECKS.due("high has no bit " + bit, w.walk(0, 1 << bit, 0, 0), -1);
            CHECKS.due("low, with another", w.walk(1 << bit | 1, 0, 0, 0), -1);
            CHECKS.due("high, with another", w.walk(0, 1 << bit | 1, 0, 0), -1);
        }
    }

    private static void walkFromAPlace() {
        CHECKS.sentence("from a PLACE (x * 100 + y): its k-th TREE (from 0 on)");
        Woods w = new Woods();
        w.tree(0, 1099, 100);
        w.tree(0, 1199, 100);
        w.tree(0, 1200, 100);
        CHECKS.due("from x 12, y 0: tree 2 is there", w.walk(7, 0, 1200, 0), 2);
        CHECKS.due("then tree 1, 100 off", w.walk(7, 0, 1200, 1), 1);
        CHECKS.due("then tree 0, 1 off", w.walk(7, 0, 1200, 2), 0);
        CHECKS.due("from x 10, y 99", w.walk(7, 0, 1099, 0), 0);
        CHECKS.due("the first place", w.walk(1, 0, 0, 0), 0);
        CHECKS.due("the last place", w.walk(1, 0, 9999, 0), 0);
    }

    private static void dueRefused(Woods w, int low, int high, int where) {
        String call = "(" + low + ", " + high + ", " + where + ")";
        CHECKS.due("walk" + call, w.walk(low, high, where, 0), -1);
        CHECKS.due("walked, over" + call, w.walked(low, high, where, 0), -1);
        CHECKS.due("walked, steps" + call, w.walked(low, high, where, 1), -1);
    }

    private static void walkNot1To6() {
        CHECKS.sentence("NONE if there are not 1 to 6");
        Woods w = withTrees(60);
        dueRefused(w, 0, 0, 0);
        dueRefused(w, 127, 0, 0);
        dueRefused(w, 0, 127, 0);
        dueRefused(w, 15, 7, 0);
        dueRefused(w, 0x3fffffff, 0x3fffffff, 0);
        dueRefused(w, -1, -1, 0);
        CHECKS.due("1", w.walk(1, 0, 0, 0), 0);
        CHECKS.due("6 of low", w.walk(63, 0, 0, 5), 5);
        CHECKS.due("6 of high", w.walk(0, 63, 0, 5), 35);
        CHECKS.due("6 of both", w.walk(7, 7, 0, 5), 32);
        CHECKS.due("the last 6", w.walk(0, 63 << 24, 0, 5), 59);
    }

    private static void walkToNoTree() {
        CHECKS.sentence("one is none");
        dueRefused(new Woods(), 1, 0, 0);
        Woods w = withTrees(29);
        dueRefused(w, 1 << 29, 0, 0);
        dueRefused(w, 3 << 28, 0, 0);
        CHECKS.due("28 of 29", w.walk(1 << 28, 0, 0, 0), 28);
        w.tree(0, 0, 100);
        CHECKS.due("29 of 30", w.walk(1 << 29, 0, 0, 0), 29);
        dueRefused(w, 0, 1, 0);
        dueRefused(w, 1, 1, 0);
        w.tree(0, 0, 100);
        CHECKS.due("30 of 31", w.walk(0, 1, 0, 0), 30);
        dueRefused(w, 0, 2, 0);
        dueRefused(w, 0, 1 << 29, 0);
        CHECKS.due("a walk behind the refused ones", w.walked(1, 1, 0, 1), 1);
    }

    private static void walkFromNoPlace() {
        CHECKS.sentence("no such PLACE");
        Woods w = withTrees(3);
        for (int where : new int[] {LEAST, -1, 10000, MOST}) {
            dueRefused(w, 7, 0, where);
        }
        CHECKS.due("0", w.walk(7, 0, 0, 0), 0);
        CHECKS.due("9999", w.walk(7, 0, 9999, 0), 2);
    }

    private static void walkNoK() {
        CHECKS.sentence("or k is none such");
        Woods w = withTrees(7);
        for (int many = 1; many <= 6; many++) {
            int low = (1 << many) - 1;
            for (int k : new int[] {LEAST, -1, many, many + 1, MOST}) {
                CHECKS.due("k " + k + " of " + many, w.walk(low, 0, 0, k), -1);
            }
            CHECKS.due("k 0 of " + many, w.walk(low, 0, 0, 0), 0);
            CHECKS.due("the last k of " + many, w.walk(low, 0, 0, many - 1), many - 1);
        }
    }

    private static void walkedTells() {
        CHECKS.sentence("Of it: what 0 what RUNS OVER, 1 the STEPS");
        Woods w = new Woods();
        w.calm();
        w.tree(0, 60, 100);
        w.tree(0, 9999, 100);
        w.fill(0, 0, 399);
        w.cut(0, 0);
        w.weather(w.now(), w.now(), 1, 0);
        CHECKS.due("runs over", w.walked(1, 0, 0, 0), 5);
        CHECKS.due("steps", w.walked(1, 0, 0, 1), 60);
        CHECKS.due("nothing runs over", w.walked(2, 0, 0, 0), 0);
        CHECKS.due("steps of the other", w.walked(2, 0, 0, 1), 198);
        CHECKS.due("no step", w.walked(2, 0, 9999, 1), 0);
        CHECKS.due("both", w.walked(3, 0, 0, 1), 60 + 138);
    }

    private static void walkedLikewise() {
        CHECKS.sentence("1 the STEPS; NONE likewise.");
        Woods w = withTrees(7);
        for (int what : new int[] {LEAST, -1, 2, 3, MOST}) {
            CHECKS.due("what " + what, w.walked(1, 0, 0, what), -1);
        }
        for (int what = 0; what <= 1; what++) {
            CHECKS.due("no trees, what " + what, w.walked(0, 0, 0, what), -1);
            CHECKS.due("seven trees, what " + what, w.walked(127, 0, 0, what), -1);
            CHECKS.due("one is none, what " + what, w.walked(129, 0, 0, what), -1);
            CHECKS.due("one of high is none, what " + what, w.walked(1, 1, 0, what), -1);
            CHECKS.due("place -1, what " + what, w.walked(1, 0, -1, what), -1);
            CHECKS.due("place 10000, what " + what, w.walked(1, 0, 10000, what), -1);
            CHECKS.due("six trees, what " + what, w.walked(126, 0, 0, what), what == 0 ? 0 : 7);
        }
    }

    private static void countTells() {
        CHECKS.sentence("0 NOW, 1 TREES, 2 BARRELS, 3 what ran ever, 4 RAN OVER, 5 WASHED, 6 BURNT, 7 in CUPS,"
            + " 8 EMPTIED, 9 SPIRIT, 10 ROSIN.");
        Woods w = new Woods();
        for (int what = 0; what <= 10; what++) {
            CHECKS.due("a new object's " + what, w.count(what), 0);
        }
        w.calm();
        w.tree(0, 0, 100);
        w.tree(1, 0, 100);
        w.tree(2, 0, 100);
        w.fill(0, 0, 407);
        w.empty(0);
        w.still(0);
        w.fill(0, 0, 30);
        w.empty(0);
        w.fill(1, 0, 21);
        w.burn(1);
        w.fill(2, 0, 100);
        w.weather(w.now(), w.now(), 0, 3);
        w.go(1);
        w.fill(2, 0, 5);
        int[] want = {w.now(), 3, 2, 407 + 30 + 21 + 105, 7, 3, 21, 102, 430, 80, 280};
        for (int what = 0; what <= 10; what++) {
            CHECKS.due("what " + what, w.count(what), want[what]);
        }
    }

    private static void countRunning() {
        CHECKS.sentence("3 what ran ever, 4 RAN OVER, 5 WASHED, 6 BURNT, 7 in CUPS, 8 EMPTIED");
        Woods w = new Woods();
        w.calm();
        w.tree(0, 0, 150);
        w.tree(1, 0, 100);
        w.fill(0, 0, 410);
        w.fill(0, 1, 420);
        w.fill(1, 0, 430);
        CHECKS.due("ran ever", w.count(3), 1260);
        CHECKS.due("ran over at all", w.count(4), 60);
        CHECKS.due("in all cups", w.count(7), 1200);
        w.weather(w.now(), w.now(), 0, 9);
        w.go(1);
        CHECKS.due("washed at all", w.count(5), 108);
        CHECKS.due("ran ever, yet", w.count(3), 1260);
        w.empty(0);
        CHECKS.due("emptied", w.count(8), 728);
        CHECKS.due("in the other cup", w.count(7), 364);
        w.burn(1);
        CHECKS.due("burnt", w.count(6), 364);
        CHECKS.due("in no cup", w.count(7), 0);
        w.burn(0);
        CHECKS.due("nothing more burns", w.count(6), 364);
        CHECKS.due("what was emptied stays", w.count(8), 728);
    }

    private static void countBarrels() {
        CHECKS.sentence("2 BARRELS");
        CHECKS.due("199", Woods.withStilledBarrels(199).count(2), 199);
        Woods w = Woods.withStilledBarrels(200);
        CHECKS.due("200, stilled ones too", w.count(2), 200);
        CHECKS.due("now", w.count(0), 10);
        CHECKS.due("trees", w.count(1), 20);
        CHECKS.due("spirit of all: 20 barrels of 30, 25, 20, 15, 10, 5 five times", w.count(9), 20 * 25);
        CHECKS.due("rosin of all, each cut", w.count(10), 20 * (21 + 17 + 14 + 10 + 7 + 5 * 3));
    }

    private static void countOther() {
        CHECKS.sentence("10 ROSIN. NONE for others.");
        Woods w = withTrees(1);
        for (int what : new int[] {LEAST, -1, 11, 12, MOST}) {
            CHECKS.due("what " + what, w.count(what), -1);
        }
        CHECKS.due("what 0", w.count(0), 0);
        CHECKS.due("what 10", w.count(10), 0);
    }
}
