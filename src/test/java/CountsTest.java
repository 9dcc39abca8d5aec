/** Promise 19: count. */
public final class CountsTest {
    private static final Checks CHECKS = new Checks();

    public static void main(String[] args) {
        allIsCounted();
        nothingIsLost();
        wrongCountsAreRefused();
        CHECKS.end();
    }

    private static void allIsCounted() {
        Woods w = new Woods();
        w.tree(0, 0, 100);
        w.tree(1, 0, 200);
        w.tree(2, 0, 100);
        w.weather(0, 3649, 9, 0);
        for (int times = 0; times < 3; times++) {
            w.cut(0, 0);
            w.cut(1, 0);
            w.cut(1, 1);
            w.go(5);
        }
        w.cut(2, 0);
        w.weather(15, 15, 5, 2);
        w.go(1);
        w.empty(0);
        w.still(0);
        w.empty(2);
        w.burn(1);
        int[] want = {16, 3, 2, 3 * 540 + 30 + 3 * 5, 3 * 140 + 15, 24, 2 * 392, 0, 392 + 30, 78, 274};
        for (int what = 0; what < want.length; what++) {
            CHECKS.due("count(" + what + ")", w.count(what), want[what]);
        }
    }

    private static void nothingIsLost() {
        Woods w = new Woods();
        for (int i = 0; i < 12; i++) {
            w.tree(i % 3, i, 60 + 20 * i);
        }
        for (int round = 0; round < 23; round++) {
            w.weather(w.now(), w.now() + 20, round % 10, round * 7 % 10);
            for (int i = 0; i < 12; i++) {
                w.cut(i, round % 3);
            }
            w.go(3 + round % 4);
            w.empty(round % 12);
            if (round == 20) {
                w.burn(1);
            }
            int gone = w.count(4) + w.count(5) + w.count(6) + w.count(8);
            CHECKS.due("all that ran is somewhere, round " + round, gone + w.count(7), w.count(3));
        }
        CHECKS.holds("some was washed", w.count(5) > 0);
        CHECKS.holds("some burnt", w.count(6) > 0);
        CHECKS.holds("some is in cups", w.count(7) > 0);
    }

    private static void wrongCountsAreRefused() {
        Woods w = new Woods();
        int[] wrong = {Integer.MIN_VALUE, -1, 11, 12, Integer.MAX_VALUE};
        for (int what : wrong) {
            CHECKS.due("count(" + what + ")", w.count(what), -1);
        }
    }
}
