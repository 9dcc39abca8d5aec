/** Promises 9 to 16, clause by clause: what is promised, and when a call is refused. */
public final class ClausesBarrelsTest {
    private static final Checks CHECKS = new Checks();
    private static final int LEAST = Integer.MIN_VALUE;
    private static final int MOST = Integer.MAX_VALUE;
    private static final int REFUSED = -2147483648;

    public static void main(String[] args) {
        emptyTellsHowMuch();
        emptyOfNoTree();
        emptyForTooManyBarrels();
        barrelTells();
        barrelOther();
        barrelOfNone();
        fromTells();
        fromNone();
        stillTells();
        stillOfNone();
        stillOfAGoneBarrel();
        letIsTrue();
        letAnew();
        letNoWood();
        letForNoRent();
        dueTells();
        dueOfNoWood();
        dueOfAWoodThatIsntLet();
        payTells();
        payOfNone();
        payOfAGoneBarrel();
        payForAWoodThatIsntLet();
        burnTellsHowMany();
        burnOfNoWood();
        CHECKS.end();
    }

    private static Woods calmWithTree(int girth) {
        Woods w = new Woods();
        w.tree(0, 0, girth);
        w.calm();
        return w;
    }

    /** Wood 0 has a barrel of so much. */
    private static Woods withBarrelOf(int amount) {
        Woods w = calmWithTree(100);
        w.fill(0, 0, amount);
        w.empty(0);
        return w;
    }

    private static void emptyTellsHowMuch() {
        CHECKS.sentence("A TREE is EMPTIED: how much");
        Woods w = calmWithTree(220);
        CHECKS.due("a tree without faces", w.empty(0), 0);
        w.fill(0, 0, 1);
        CHECKS.due("1", w.empty(0), 1);
        w.fill(0, 0, 401);
        w.fill(0, 1, 400);
        w.fill(0, 2, 400);
        CHECKS.due("three full cups", w.empty(0), 1200);
        CHECKS.due("empty cups", w.empty(0), 0);
        CHECKS.due("emptied", w.count(8), 1201);
        w.fill(0, 0, 9);
        w.burn(0);
        CHECKS.due("a burnt tree", w.empty(0), 0);
    }

    private static void emptyOfNoTree() {
        CHECKS.sentence("how much; NONE if there is none such");
        CHECKS.due("0 of none", new Woods().empty(0), -1);
        Woods w = calmWithTree(100);
        for (int tree : new int[] {LEAST, -1, 1, 59, 60, MOST}) {
            CHECKS.due("tree " + tree + " of one", w.empty(tree), -1);
        }
        CHECKS.due("tree 0 of one", w.empty(0), 0);
        CHECKS.due("no barrel for nothing", w.count(2), 0);
    }

    private static void emptyForTooManyBarrels() {
        CHECKS.sentence("or too many BARRELS would be");
        Woods w = Woods.withStilledBarrels(200);
        w.tree(5, 0, 220);
        CHECKS.due("nothing needs none", w.empty(20), 0);
        w.fill(20, 0, 1);
        CHECKS.due("1 would need one", w.empty(20), -1);
        CHECKS.due("barrels", w.count(2), 200);
        CHECKS.due("the cup has it", w.face(20, 0, 3), 1);
        Woods open = Woods.withStilledBarrels(199);
        open.tree(0, 0, 100);
        open.fill(20, 0, 400);
        CHECKS.due("400 need one", open.empty(20), 400);
        open.fill(20, 0, 400);
        CHECKS.due("400 more find room in it", open.empty(20), 400);
        open.fill(20, 0, 201);
        CHECKS.due("201 more would need one", open.empty(20), -1);
        CHECKS.due("it has 800", open.barrel(199, 0), 800);
        open.weather(open.now(), open.now(), 0, 1);
        open.go(1);
        CHECKS.due("199 more find room", open.empty(20), 199);
    }

    private static void barrelTells() {
        CHECKS.sentence("Of a BARREL: 0 what it has, 1 .. 4 of which GRADE, 5 its GRADE, 6 its WOOD,"
            + " 7 whether it is full, 8 STILLED, 9 PAID.");
        Woods w = new Woods();
        w.calm();
        w.tree(3, 0, 100);
        int[] amounts = {11, 22, 33, 44};
        for (int year = 0; year < 4; year++) {
            w.goTo(365 * year);
            w.fill(0, 0, amounts[year]);
        }
        w.empty(0);
        dueBarrel(w, 0, new int[] {110, 11, 22, 33, 44, 2, 3, 0, 0, 0});
        w.still(0);
        dueBarrel(w, 0, new int[] {110, 11, 22, 33, 44, 2, 3, 1, 1, 0});
        w.goTo(365 * 5);
        w.fill(0, 0, 7);
        w.empty(0);
        w.let(3, 0);
        w.pay(1);
        dueBarrel(w, 1, new int[] {7, 0, 0, 0, 7, 3, 3, 1, 0, 1});
        Woods full = new Woods();
        full.calm();
        full.empty(full.treeWith800And(200, 1));
        dueBarrel(full, 0, new int[] {1000, 1000, 0, 0, 0, 0, 1, 1, 0, 0});
    }

    private static void dueBarrel(Woods w, int b, int[] want) {
        for (int what = 0; what <= 9; what++) {
            CHECKS.due("barrel " + b + ", what " + what, w.barrel(b, what), want[what]);
        }
    }

    private static void barrelOther() {
        CHECKS.sentence("9 PAID. NONE for others");
        Woods w = withBarrelOf(5);
        for (int what : new int[] {LEAST, -1, 10, 11, MOST}) {
            CHECKS.due("what " + what, w.barrel(0, what), -1);
        }
        CHECKS.due("what 0", w.barrel(0, 0), 5);
        CHECKS.due("what 9", w.barrel(0, 9), 0);
    }

    private static void barrelOfNone() {
        CHECKS.sentence("9 PAID. NONE for others, or if there is none such.");
        CHECKS.due("0 of none", new Woods().barrel(0, 0), -1);
        Woods w = withBarrelOf(5);
        for (int b : new int[] {LEAST, -1, 1, 199, 200, MOST}) {
            CHECKS.due("barrel " + b + " of one", w.barrel(b, 0), -1);
        }
        Woods all = Woods.withStilledBarrels(200);
        CHECKS.due("199 of 200", all.barrel(199, 8), 1);
        CHECKS.due("200 of 200", all.barrel(200, 8), -1);
    }

    private static void fromTells() {
        CHECKS.sentence("How much a BARREL has of a TREE");
        Woods w = new Woods();
        w.calm();
        w.empty(w.treeWith800And(201, 0));
        w.tree(0, 0, 100);
        w.tree(1, 0, 100);
        w.fill(1, 0, 6);
        w.fill(2, 0, 7);
        w.empty(1);
        w.empty(2);
        int[][] want = {{1000, 0, 0}, {1, 6, 0}, {0, 0, 7}};
        for (int b = 0; b < 3; b++) {
            for (int tree = 0; tree < 3; tree++) {
                CHECKS.due("barrel " + b + " of tree " + tree, w.from(b, tree), want[b][tree]);
            }
        }
        w.still(1);
        CHECKS.due("a stilled one", w.from(1, 1), 6);
        w.burn(1);
        CHECKS.due("of a burnt tree", w.from(2, 2), 7);
    }

    private static void fromNone() {
        CHECKS.sentence("How much a BARREL has of a TREE; NONE if there is none such.");
        Woods w = withBarrelOf(5);
        for (int wrong : new int[] {LEAST, -1, 1, 59, 60, 199, 200, MOST}) {
            CHECKS.due("barrel " + wrong + " of one", w.from(wrong, 0), -1);
            CHECKS.due("tree " + wrong + " of one", w.from(0, wrong), -1);
        }
        CHECKS.due("barrel 0 of one, tree 0 of one", w.from(0, 0), 5);
        w.tree(5, 0, 100);
        CHECKS.due("a tree that is one, but not in it", w.from(0, 1), 0);
    }

    private static void stillTells() {
        CHECKS.sentence("A BARREL is STILLED: SPIRIT times 10000, and ROSIN");
        Woods w = withBarrelOf(99);
        CHECKS.due("99", w.still(0), 19 * 10000 + 69);
        CHECKS.due("it is stilled", w.barrel(0, 8), 1);
        Woods least = withBarrelOf(1);
        CHECKS.due("1", least.still(0), 0);
        CHECKS.due("is stilled too", least.barrel(0, 8), 1);
        Woods most = new Woods();
        most.calm();
        most.empty(most.treeWith800And(201, 0));
        CHECKS.due("1000", most.still(0), 200 * 10000 + 700);
        CHECKS.due("1 more", most.still(1), 0);
        CHECKS.due("spirit", most.count(9), 200);
        CHECKS.due("rosin", most.count(10), 700);
        w.burn(0);
        w.tree(1, 0, 100);
        w.fill(1, 0, 10);
        w.empty(1);
        w.burn(1);
        CHECKS.due("a burnt wood's", w.still(1), 20007);
    }

    private static void stillOfNone() {
        CHECKS.sentence("SPIRIT times 10000, and ROSIN; NONE if there is none such");
        CHECKS.due("0 of none", new Woods().still(0), -1);
        Woods w = withBarrelOf(50);
        for (int b : new int[] {LEAST, -1, 1, 199, 200, MOST}) {
            CHECKS.due("barrel " + b + " of one", w.still(b), -1);
        }
        CHECKS.due("none is stilled", w.barrel(0, 8), 0);
        CHECKS.due("no spirit", w.count(9), 0);
        CHECKS.due("barrel 0 of one", w.still(0), 100035);
    }

    private static void stillOfAGoneBarrel() {
        CHECKS.sentence("NONE if there is none such, it is STILLED or PAID.");
        Woods w = withBarrelOf(50);
        w.still(0);
        CHECKS.due("stilled", w.still(0), -1);
        CHECKS.due("spirit of one", w.count(9), 10);
        CHECKS.due("rosin of one", w.count(10), 35);
        Woods paid = withBarrelOf(50);
        paid.let(0, 0);
        paid.pay(0);
        CHECKS.due("paid", paid.still(0), -1);
        CHECKS.due("isn't stilled", paid.barrel(0, 8), 0);
        CHECKS.due("no spirit", paid.count(9), 0);
        Woods full = new Woods();
        full.calm();
        full.empty(full.treeWith800And(200, 0));
        CHECKS.due("a full one may be", full.still(0), 2000700);
    }

    private static void letIsTrue() {
        CHECKS.sentence("A WOOD is LET");
        Woods w = withBarrelOf(50);
        CHECKS.due("not ahead", w.pay(0), REFUSED);
        CHECKS.holds("let", w.let(0, 50));
        CHECKS.due("nothing is due yet", w.due(0), 0);
        w.fill(0, 0, 10);
        w.empty(0);
        CHECKS.due("half of 10", w.due(0), 5);
        CHECKS.due("paid", w.pay(0), 5 - 60);
        CHECKS.due("another wood isn't let", w.due(1), 0);
        CHECKS.holds("a wood without trees", w.let(5, 100));
    }

    private static void letAnew() {
        CHECKS.sentence("(from the begin anew, if it was): true");
        Woods w = calmWithTree(100);
        w.let(0, 100);
        w.fill(0, 0, 40);
        w.empty(0);
        CHECKS.due("due", w.due(0), 40);
        CHECKS.holds("anew", w.let(0, 50));
        CHECKS.due("what was due is gone", w.due(0), 0);
        CHECKS.due("paid", w.pay(0), -40);
        CHECKS.holds("anew for the same rent", w.let(0, 50));
        CHECKS.due("what was paid is gone", w.due(0), 0);
        w.fill(0, 0, 20);
        w.empty(0);
        CHECKS.due("the new rent", w.due(0), 10);
        w.burn(0);
        CHECKS.holds("a burnt wood", w.let(0, 50));
        CHECKS.due("from the begin", w.due(0), 0);
        CHECKS.due("is paid for", w.pay(1), -20);
    }

    private static void letNoWood() {
        CHECKS.sentence("true; false if there is none such");
        Woods w = new Woods();
        for (int wood : new int[] {LEAST, -1, 6, MOST}) {
            CHECKS.fails("wood " + wood, w.let(wood, 50));
        }
        CHECKS.holds("wood 0", w.let(0, 50));
        CHECKS.holds("wood 5", w.let(5, 50));
    }

    private static void letForNoRent() {
        CHECKS.sentence("or RENT can't be");
        Woods w = withBarrelOf(50);
        for (int rent : new int[] {LEAST, -1, 101, MOST}) {
            CHECKS.fails("rent " + rent, w.let(0, rent));
        }
        CHECKS.due("it isn't let", w.pay(0), REFUSED);
        CHECKS.holds("rent 100", w.let(0, 100));
        CHECKS.holds("rent 0", w.let(0, 0));
        CHECKS.due("it is let", w.pay(0), -50);
    }

    private static void dueTells() {
        CHECKS.sentence("What is DUE for a WOOD yet (below 0, if more was PAID)");
        Woods w = calmWithTree(100);
        w.let(0, 50);
        w.fill(0, 0, 80);
        w.empty(0);
        CHECKS.due("40", w.due(0), 40);
        w.pay(0);
        CHECKS.due("80 were paid", w.due(0), -40);
        w.fill(0, 0, 80);
        w.empty(0);
        CHECKS.due("exactly 0", w.due(0), 0);
        w.fill(0, 0, 1);
        w.empty(0);
        CHECKS.due("half of 161 is 80", w.due(0), 0);
        w.fill(0, 0, 1);
        w.empty(0);
        CHECKS.due("half of 162 is 81", w.due(0), 1);
        CHECKS.due("asked again", w.due(0), 1);
    }

    private static void dueOfNoWood() {
        CHECKS.sentence("0 if there is none such");
        Woods w = withBarrelOf(50);
        for (int wood = 0; wood <= 5; wood++) {
            w.let(wood, 100);
        }
        w.pay(0);
        for (int wood : new int[] {LEAST, -1, 6, MOST}) {
            CHECKS.due("wood " + wood, w.due(wood), 0);
        }
        CHECKS.due("wood 0", w.due(0), -50);
    }

    private static void dueOfAWoodThatIsntLet() {
        CHECKS.sentence("or it isn't LET");
        Woods w = withBarrelOf(50);
        CHECKS.due("never let", w.due(0), 0);
        w.let(0, 100);
        w.fill(0, 0, 30);
        w.empty(0);
        CHECKS.due("let", w.due(0), 30);
        w.burn(0);
        CHECKS.due("burnt", w.due(0), 0);
        w.let(0, 100);
        w.pay(0);
        CHECKS.due("let again", w.due(0), -80);
        w.burn(0);
        CHECKS.due("burnt again", w.due(0), 0);
    }

    private static void payTells() {
        CHECKS.sentence("A BARREL is PAID for its WOOD: what is DUE yet");
        Woods w = calmWithTree(220);
        w.tree(1, 0, 100);
        w.let(0, 100);
        w.let(1, 100);
        w.fill(1, 0, 12);
        w.empty(1);
        w.fill(0, 0, 400);
        w.fill(0, 1, 400);
        w.fill(0, 2, 400);
        w.empty(0);
        CHECKS.due("1000 of 1200", w.pay(1), 200);
        CHECKS.due("it is paid", w.barrel(1, 9), 1);
        CHECKS.due("200 of 200", w.pay(2), 0);
        CHECKS.due("the other wood's isn't", w.due(1), 12);
        w.let(0, 0);
        w.fill(0, 0, 1);
        w.empty(0);
        CHECKS.due("for a rent of 0", w.pay(3), -1);
    }

    private static void payOfNone() {
        CHECKS.sentence("-2147483648 if there is none such");
        CHECKS.due("0 of none", new Woods().pay(0), REFUSED);
        Woods w = withBarrelOf(50);
        w.let(0, 0);
        for (int b : new int[] {LEAST, -1, 1, 199, 200, MOST}) {
            CHECKS.due("barrel " + b + " of one", w.pay(b), REFUSED);
        }
        CHECKS.due("due", w.due(0), 0);
        CHECKS.due("barrel 0 of one", w.pay(0), -50);
    }

    private static void payOfAGoneBarrel() {
        CHECKS.sentence("it is STILLED or PAID, or");
        Woods w = withBarrelOf(50);
        w.let(0, 0);
        w.still(0);
        CHECKS.due("stilled", w.pay(0), REFUSED);
        CHECKS.due("isn't paid", w.barrel(0, 9), 0);
        CHECKS.due("due", w.due(0), 0);
        w.fill(0, 0, 8);
        w.empty(0);
        CHECKS.due("paid", w.pay(1), -8);
        CHECKS.due("paid again", w.pay(1), REFUSED);
        w.let(0, 0);
        CHECKS.due("paid for an earlier let", w.pay(1), REFUSED);
        CHECKS.due("due", w.due(0), 0);
    }

    private static void payForAWoodThatIsntLet() {
        CHECKS.sentence("or its WOOD isn't LET");
        Woods w = withBarrelOf(50);
        w.let(1, 10);
        CHECKS.due("never let, though another is", w.pay(0), REFUSED);
        CHECKS.due("isn't paid", w.barrel(0, 9), 0);
        CHECKS.due("isn't full", w.barrel(0, 7), 0);
        w.let(0, 10);
        w.burn(0);
        CHECKS.due("burnt", w.pay(0), REFUSED);
        w.let(0, 10);
        CHECKS.due("let", w.pay(0), -50);
    }

    private static void burnTellsHowMany() {
        CHECKS.sentence("A WOOD burns: how many TREES");
        Woods w = new Woods();
        CHECKS.due("a wood without trees", w.burn(0), 0);
        int[] woods = {2, 5, 2, 0, 2};
        for (int i = 0; i < woods.length; i++) {
            w.tree(woods[i], i, 20 + 90 * i);
        }
        CHECKS.due("three of five", w.burn(2), 3);
        CHECKS.due("they burn once", w.burn(2), 0);
        w.tree(2, 0, 100);
        CHECKS.due("one came meanwhile", w.burn(2), 1);
        CHECKS.due("wood 5", w.burn(5), 1);
        CHECKS.due("wood 0", w.burn(0), 1);
        CHECKS.due("trees are counted yet", w.count(1), 6);
        Woods all = new Woods();
        for (int tree = 0; tree < 60; tree++) {
            all.tree(3, 0, 100);
        }
        CHECKS.due("sixty", all.burn(3), 60);
    }

    private static void burnOfNoWood() {
        CHECKS.sentence("how many TREES; NONE if there is none such.");
        Woods w = new Woods();
        for (int wood = 0; wood <= 5; wood++) {
            w.tree(wood, 0, 100);
        }
        for (int wood : new int[] {LEAST, -1, 6, MOST}) {
            CHECKS.due("wood " + wood, w.burn(wood), -1);
        }
        for (int wood = 0; wood <= 5; wood++) {
            CHECKS.due("none burnt: " + wood, w.cut(wood, 0), 1);
        }
        CHECKS.due("wood 0", w.burn(0), 1);
        CHECKS.due("wood 5", w.burn(5), 1);
    }
}
