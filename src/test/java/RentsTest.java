/** Promises 13 to 16: let, due, pay, burn. */
public final class RentsTest {
    private static final Checks CHECKS = new Checks();
    private static final int REFUSED = -2147483648;

    public static void main(String[] args) {
        rentIsCutOfAllTogether();
        onlyLaterResinIsDue();
        woodsAreLetAnew();
        barrelsArePaid();
        wrongRentsAreRefused();
        woodsBurn();
        burntWoodsArentLet();
        newTreesOfABurntWoodLive();
        CHECKS.end();
    }

    /** Trees of wood 0 with one face each, on which a streak has just been cut. */
    private static Woods tapped(int trees, int warmth) {
        Woods w = new Woods();
        w.weather(0, 3649, warmth, 0);
        for (int i = 0; i < trees; i++) {
            w.tree(0, i, 100);
            w.cut(i, 0);
        }
        return w;
    }

    private static void rentIsCutOfAllTogether() {
        Woods w = tapped(3, 1);
        w.let(0, 15);
        w.go(1);
        w.empty(0);
        CHECKS.due("15 of 100 of 6", w.due(0), 0);
        w.empty(1);
        CHECKS.due("15 of 100 of 12", w.due(0), 1);
        w.empty(2);
        CHECKS.due("15 of 100 of 18", w.due(0), 2);
        CHECKS.due("another wood", w.due(1), 0);
        w.let(1, 100);
        CHECKS.due("another wood's trees aren't due", w.due(1), 0);
    }

    private static void onlyLaterResinIsDue() {
        Woods w = tapped(2, 9);
        w.go(1);
        w.empty(0);
        w.let(0, 100);
        CHECKS.due("what was emptied ahead isn't due", w.due(0), 0);
        w.empty(1);
        CHECKS.due("what is emptied behind is", w.due(0), 54);
        CHECKS.due("a barrel is paid whole", w.pay(0), 54 - 108);
        CHECKS.due("below 0", w.due(0), -54);
        w.go(1);
        w.empty(0);
        CHECKS.due("what was paid more counts on", w.due(0), -9);
    }

    private static void woodsAreLetAnew() {
        Woods w = tapped(2, 9);
        w.let(0, 100);
        w.go(1);
        w.empty(0);
        CHECKS.due("due", w.due(0), 54);
        w.pay(0);
        w.empty(1);
        CHECKS.due("due", w.due(0), 54);
        CHECKS.holds("let anew", w.let(0, 50));
        CHECKS.due("from the begin", w.due(0), 0);
        w.go(1);
        w.empty(0);
        CHECKS.due("half of 45", w.due(0), 22);
        CHECKS.fails("a refused let", w.let(0, 101));
        CHECKS.due("changes nothing", w.due(0), 22);
        CHECKS.holds("rent 0", w.let(0, 0));
        w.empty(1);
        CHECKS.due("nothing is due", w.due(0), 0);
        CHECKS.due("but may be paid", w.pay(1), -144);
    }

    private static void barrelsArePaid() {
        Woods w = tapped(2, 9);
        w.tree(1, 0, 100);
        w.cut(2, 0);
        w.go(1);
        w.empty(0);
        CHECKS.due("a wood that isn't let", w.pay(0), REFUSED);
        CHECKS.due("isn't paid for", w.barrel(0, 9), 0);
        w.let(0, 40);
        CHECKS.due("paid", w.pay(0), -54);
        CHECKS.due("paid once", w.pay(0), REFUSED);
        CHECKS.due("due", w.due(0), -54);
        w.empty(1);
        CHECKS.due("40 of 100 of 54", w.due(0), -54 + 21);
        w.still(1);
        CHECKS.due("a stilled barrel", w.pay(1), REFUSED);
        CHECKS.due("isn't paid", w.barrel(1, 9), 0);
        w.empty(2);
        CHECKS.due("a barrel of a wood that isn't let", w.pay(2), REFUSED);
        w.let(1, 1);
        CHECKS.due("is paid when it is", w.pay(2), -54);
        CHECKS.due("for its own wood", w.due(0), -33);
        int[] wrong = {Integer.MIN_VALUE, -1, 3, 200, Integer.MAX_VALUE};
        for (int b : wrong) {
            CHECKS.due("pay(" + b + ")", w.pay(b), REFUSED);
        }
    }

    private static void wrongRentsAreRefused() {
        Woods w = tapped(1, 9);
        int[] woods = {Integer.MIN_VALUE, -1, 6, Integer.MAX_VALUE};
        for (int wood : woods) {
            CHECKS.fails("let(" + wood + ", 5)", w.let(wood, 5));
            CHECKS.due("due(" + wood + ")", w.due(wood), 0);
            CHECKS.due("burn(" + wood + ")", w.burn(wood), -1);
        }
        int[] rents = {Integer.MIN_VALUE, -1, 101, Integer.MAX_VALUE};
        for (int rent : rents) {
            CHECKS.fails("let(0, " + rent + ")", w.let(0, rent));
        }
        w.go(1);
        w.empty(0);
        CHECKS.due("no wood was let", w.pay(0), REFUSED);
        for (int wood = 0; wood < 6; wood++) {
            CHECKS.holds("let(" + wood + ", 100)", w.let(wood, 100));
        }
    }

    private static void woodsBurn() {
        Woods w = tapped(3, 9);
        w.tree(1, 0, 100);
        w.cut(3, 0);
        w.go(2);
        w.empty(0);
        CHECKS.due("three trees burn", w.burn(0), 3);
        CHECKS.due("what their cups had is burnt", w.count(6), 2 * 99);
        CHECKS.due("the cup is empty", w.face(1, 0, 3), 0);
        CHECKS.due("of its grade too", w.face(1, 0, 4), 0);
        CHECKS.due("the other wood's cup isn't", w.face(3, 0, 3), 99);
        CHECKS.due("in cups", w.count(7), 99);
        CHECKS.due("a burnt tree's streaks are told", w.face(1, 0, 0), 1);
        CHECKS.due("what has been emptied doesn't burn", w.barrel(0, 0), 99);
        w.go(3);
        CHECKS.due("burnt trees don't run", w.count(3), 3 * 99 + 180);
        CHECKS.due("their cups stay empty", w.face(1, 0, 3), 0);
        CHECKS.due("a burnt tree is emptied of nothing", w.empty(1), 0);
        CHECKS.due("nothing can be cut there", w.cut(1, 0), -1);
        CHECKS.due("the other wood can be cut", w.cut(3, 0), 2);
        CHECKS.due("it burns but once", w.burn(0), 0);
        CHECKS.due("burnt", w.count(6), 198);
        CHECKS.due("trees are counted yet", w.count(1), 4);
        CHECKS.due("a burnt wood's barrel is stilled", w.still(0), 190000 + 69);
    }

    private static void burntWoodsArentLet() {
        Woods w = tapped(1, 9);
        w.tree(1, 0, 100);
        w.cut(1, 0);
        w.let(0, 100);
        w.let(1, 100);
        w.let(2, 100);
        w.go(1);
        w.empty(0);
        w.empty(1);
        w.burn(0);
        CHECKS.due("nothing is due", w.due(0), 0);
        CHECKS.due("nothing is paid", w.pay(0), REFUSED);
        CHECKS.due("another wood is let yet", w.due(1), 54);
        CHECKS.due("a burn that is refused changes nothing", w.burn(6), -1);
        CHECKS.due("the other wood yet", w.due(1), 54);
        CHECKS.holds("it may be let anew", w.let(0, 10));
        CHECKS.due("from the begin", w.due(0), 0);
        CHECKS.due("then it is paid", w.pay(0), -54);
    }

    private static void newTreesOfABurntWoodLive() {
        Woods w = tapped(1, 9);
        w.burn(0);
        CHECKS.due("a new tree", w.tree(0, 0, 100), 1);
        CHECKS.due("is cut", w.cut(1, 0), 1);
        w.go(1);
        CHECKS.due("runs", w.face(1, 0, 3), 54);
        CHECKS.due("burns by itself", w.burn(0), 1);
        CHECKS.due("burnt", w.count(6), 54);
        CHECKS.due("a wood without trees", w.burn(5), 0);
    }
}
