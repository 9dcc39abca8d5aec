/** Promises 1 to 8, clause by clause: what is promised, and when a call is refused. */
public final class ClausesTappingTest {
    private static final Checks CHECKS = new Checks();
    private static final int LEAST = Integer.MIN_VALUE;
    private static final int MOST = Integer.MAX_VALUE;

    public static void main(String[] args) {
        constants();
        newObject();
        treeComes();
        treeWhere();
        treeOfNoWoodPlaceOrGirth();
        treeBehind60();
        bears();
        bearsNone();
        weatherFromTo();
        weatherThatCantBe();
        weatherBelowNow();
        weatherToBelowFrom();
        weatherAbove3649();
        cutTellsHowMany();
        cutOfNoTree();
        cutOfABurntTree();
        cutOfARestingTree();
        cutOfNoFace();
        cutTooEarly();
        cutOf40();
        rests();
        restsOfNoTree();
        goDays();
        goUpTo3650();
        goAnotherN();
        faceTells();
        faceOther();
        faceOfNone();
        callsAreUpTo512();
        CHECKS.end();
    }

    private static Woods withTree(int girth) {
        Woods w = new Woods();
        w.tree(0, 0, girth);
        return w;
    }

    private static void constants() {
        CHECKS.sentence("The constants: `NONE = -1`: There is none.");
        CHECKS.due("NONE", ResinWoods.NONE, -1);
    }

    private static void newObject() {
        CHECKS.sentence("No TREES; NOW is 0; no WOOD is LET.");
        Woods w = new Woods();
        CHECKS.due("trees", w.count(1), 0);
        CHECKS.due("no tree 0", w.empty(0), -1);
        CHECKS.due("now", w.count(0), 0);
        for (int wood = 0; wood <= 5; wood++) {
            w.tree(wood, 0, 100);
            w.cut(wood, 0);
        }
        w.go(1);
        for (int wood = 0; wood <= 5; wood++) {
            w.empty(wood);
            CHECKS.due("due of wood " + wood, w.due(wood), 0);
            CHECKS.due("pay for wood " + wood, w.pay(wood), -2147483648);
        }
    }

    private static void treeComes() {
        CHECKS.sentence("A TREE comes: its number.");
        Woods w = new Woods();
        CHECKS.due("the first", w.tree(5, 9999, 400), 0);
        CHECKS.due("one is", w.count(1), 1);
        CHECKS.due("the second", w.tree(0, 0, 20), 1);
        CHECKS.due("two are", w.count(1), 2);
        CHECKS.due("one that is refused has no number", w.tree(0, 0, 401), -1);
        CHECKS.due("the third", w.tree(0, 0, 20), 2);
        w.burn(0);
        CHECKS.due("one in a burnt wood", w.tree(0, 0, 100), 3);
        CHECKS.due("is not burnt itself", w.cut(3, 0), 1);
    }

    private static void treeWhere() {
        CHECKS.sentence("Where is x * 100 + y");
        Woods w = new Woods();
        w.tree(0, 12 * 100 + 34, 100);
        CHECKS.due("there", w.walked(1, 0, 1234, 1), 0);
        CHECKS.due("along x", w.walked(1, 0, 34, 1), 12);
        CHECKS.due("along y", w.walked(1, 0, 1200, 1), 34);
    }

    private static void treeOfNoWoodPlaceOrGirth() {
        CHECKS.sentence("NONE if there is no such WOOD, PLACE or GIRTH");
        Woods w = new Woods();
        for (int wood : new int[] {LEAST, -1, 6, MOST}) {
            CHECKS.due("wood " + wood, w.tree(wood, 0, 100), -1);
        }
        for (int where : new int[] {LEAST, -1, 10000, MOST}) {
            CHECKS.due("place " + where, w.tree(0, where, 100), -1);
        }
        for (int girth : new int[] {LEAST, -1, 0, 19, 401, MOST}) {
            CHECKS.due("girth " + girth, w.tree(0, 0, girth), -1);
        }
        CHECKS.due("none came", w.count(1), 0);
        CHECKS.due("the least of all", w.tree(0, 0, 20), 0);
        CHECKS.due("the most of all", w.tree(5, 9999, 400), 1);
    }

    private static void treeBehind60() {
        CHECKS.sentence("or 60 came");
        Woods w = new Woods();
        for (int tree = 0; tree < 59; tree++) {
            w.tree(0, 0, 100);
        }
        CHECKS.due("the 60th", w.tree(1, 0, 100), 59);
        CHECKS.due("the 61st", w.tree(1, 0, 100), -1);
        w.burn(0);
        CHECKS.due("burnt ones came too", w.tree(1, 0, 100), -1);
        CHECKS.due("60 came", w.count(1), 60);
    }

    private static void bears() {
        CHECKS.sentence("How many FACES a GIRTH BEARS");
        Woods w = new Woods();
        int[] girths = {20, 79, 80, 149, 150, 219, 220, 400};
        int[] faces = {0, 0, 1, 1, 2, 2, 3, 3};
        for (int i = 0; i < girths.length; i++) {
            CHECKS.due("girth " + girths[i], w.bears(girths[i]), faces[i]);
        }
    }

    private static void bearsNone() {
        CHECKS.sentence("NONE if there is none such.");
        Woods w = new Woods();
        for (int girth : new int[] {LEAST, -80, -1, 0, 19, 401, MOST}) {
            CHECKS.due("girth " + girth, w.bears(girth), -1);
        }
    }

    private static void weatherFromTo() {
        CHECKS.sentence("WARMTH and RAIN of the DAYS from .. to (both counted): true");
        Woods w = withTree(100);
        w.calm();
        CHECKS.holds("of two days", w.weather(1, 2, 1, 0));
        CHECKS.holds("of one day", w.weather(4, 4, 1, 0));
        w.cut(0, 0);
        int[] want = {0, 5, 9, 9, 11, 11};
        for (int day = 0; day < want.length; day++) {
            w.go(1);
            CHECKS.due("behind day " + day, w.face(0, 0, 3), want[day]);
        }
        CHECKS.holds("told anew", w.weather(6, 8, 9, 0));
        CHECKS.holds("and again: the latest counts", w.weather(7, 3649, 1, 9));
        w.go(1);
        CHECKS.due("behind day 6", w.face(0, 0, 3), 20);
        w.go(1);
        CHECKS.due("behind day 7: 9 of 100 of 21 are one", w.face(0, 0, 3), 20);
    }

    private static void weatherThatCantBe() {
        CHECKS.sentence("false if they can't be");
        Woods w = withTree(100);
        for (int wrong : new int[] {LEAST, -1, 10, 256, MOST}) {
            CHECKS.fails("warmth " + wrong, w.weather(0, 9, wrong, 0));
            CHECKS.fails("rain " + wrong, w.weather(0, 9, 5, wrong));
        }
        for (int right = 0; right <= 9; right++) {
            CHECKS.holds("warmth " + right, w.weather(0, 9, right, 9));
            CHECKS.holds("rain " + right, w.weather(0, 9, 9, right));
        }
    }

    private static void weatherBelowNow() {
        CHECKS.sentence("from is below NOW");
        Woods w = withTree(100);
        CHECKS.fails("-1 at day 0", w.weather(-1, 5, 1, 0));
        CHECKS.fails("the least", w.weather(LEAST, 5, 1, 0));
        CHECKS.holds("0 at day 0", w.weather(0, 5, 1, 0));
        w.go(10);
        CHECKS.fails("9 at day 10", w.weather(9, 20, 9, 0));
        CHECKS.fails("0 at day 10", w.weather(0, 20, 9, 0));
        CHECKS.holds("10 at day 10", w.weather(10, 20, 1, 0));
        CHECKS.holds("11 at day 10", w.weather(11, 20, 1, 0));
        w.cut(0, 0);
        w.go(1);
        CHECKS.due("warmth of day 10", w.face(0, 0, 3), 6);
    }

    private static void weatherToBelowFrom() {
        CHECKS.sentence("or to is below from");
        Woods w = withTree(100);
        CHECKS.fails("1 to 0", w.weather(1, 0, 1, 0));
        CHECKS.fails("3649 to 3648", w.weather(3649, 3648, 1, 0));
        CHECKS.fails("5 to the least", w.weather(5, LEAST, 1, 0));
        CHECKS.holds("5 to 5", w.weather(5, 5, 1, 0));
        CHECKS.holds("5 to 6", w.weather(5, 6, 1, 0));
    }

    private static void weatherAbove3649() {
        CHECKS.sentence("or above 3649");
        Woods w = withTree(100);
        CHECKS.fails("to 3650", w.weather(0, 3650, 1, 0));
        CHECKS.fails("to the most", w.weather(0, MOST, 1, 0));
        CHECKS.fails("3650 to 3650", w.weather(3650, 3650, 1, 0));
        CHECKS.holds("to 3649", w.weather(0, 3649, 1, 0));
        CHECKS.holds("3649 to 3649", w.weather(3649, 3649, 9, 0));
        w.goTo(3649);
        CHECKS.holds("3649 to 3649 at day 3649", w.weather(3649, 3649, 8, 0));
        w.cut(0, 0);
        w.go(1);
        CHECKS.due("warmth of day 3649", w.face(0, 0, 3), 48);
        CHECKS.fails("3649 to 3649 at day 3650", w.weather(3649, 3649, 8, 0));
        CHECKS.fails("3650 to 3650 at day 3650", w.weather(3650, 3650, 8, 0));
    }

    private static void cutTellsHowMany() {
        CHECKS.sentence("A STREAK is cut: how many the FACE has.");
        Woods w = withTree(220);
        for (int streak = 1; streak <= 3; streak++) {
            CHECKS.due("face 0", w.cut(0, 0), streak);
            CHECKS.due("told", w.face(0, 0, 0), streak);
            w.go(5);
        }
        CHECKS.due("face 1 has its own", w.cut(0, 1), 1);
        CHECKS.due("face 0 has its own", w.cut(0, 0), 4);
    }

    private static void cutOfNoTree() {
        CHECKS.sentence("NONE if there is no such TREE");
        Woods w = new Woods();
        CHECKS.due("0 of none", w.cut(0, 0), -1);
        w.tree(0, 0, 100);
        for (int tree : new int[] {LEAST, -1, 1, 59, 60, MOST}) {
            CHECKS.due("tree " + tree + " of one", w.cut(tree, 0), -1);
        }
        CHECKS.due("tree 0 of one", w.cut(0, 0), 1);
    }

    private static void cutOfABurntTree() {
        CHECKS.sentence("it is BURNT");
        Woods w = withTree(150);
        w.cut(0, 0);
        w.go(5);
        w.burn(0);
        w.tree(0, 0, 100);
        CHECKS.due("its face", w.cut(0, 0), -1);
        CHECKS.due("its next face", w.cut(0, 1), -1);
        CHECKS.due("streaks", w.face(0, 0, 0), 1);
        CHECKS.due("a new tree of that wood isn't burnt", w.cut(1, 0), 1);
    }

    private static void cutOfARestingTree() {
        CHECKS.sentence("or RESTS");
        Woods w = withTree(150);
        for (int year = 0; year <= 4; year++) {
            w.goTo(365 * year);
            CHECKS.due("in year " + year, w.cut(0, 0), year == 4 ? -1 : year + 1);
        }
        CHECKS.due("its next face", w.cut(0, 1), -1);
        w.goTo(365 * 5);
        CHECKS.due("in year 5", w.cut(0, 0), 5);
    }

    private static void cutOfNoFace() {
        CHECKS.sentence("the FACE is none that it has nor the next one that it BEARS");
        int[] girths = {79, 149, 219, 400};
        for (int borne = 0; borne < girths.length; borne++) {
            Woods w = withTree(girths[borne]);
            for (int face = 0; face < borne; face++) {
                CHECKS.due("behind the next one", w.cut(0, face + 1), -1);
                CHECKS.due("the next one", w.cut(0, face), 1);
            }
            for (int face : new int[] {LEAST, -1, borne, borne + 1, MOST}) {
                CHECKS.due("face " + face + " of " + borne, w.cut(0, face), -1);
            }
            w.go(5);
            for (int face = 0; face < borne; face++) {
                CHECKS.due("one that it has", w.cut(0, face), 2);
            }
        }
    }

    private static void cutTooEarly() {
        CHECKS.sentence("it is too early");
        Woods w = withTree(100);
        w.go(3);
        w.cut(0, 0);
        CHECKS.due("the same day", w.cut(0, 0), -1);
        w.go(4);
        CHECKS.due("4 days behind", w.cut(0, 0), -1);
        w.go(1);
        CHECKS.due("5 days behind", w.cut(0, 0), 2);
        w.goTo(3645);
        w.cut(0, 0);
        w.goTo(3650);
        CHECKS.due("5 days behind, on the last day", w.cut(0, 0), 4);
    }

    private static void cutOf40() {
        CHECKS.sentence("or the FACE has 40");
        Woods w = withTree(150);
        for (int streak = 1; streak < 40; streak++) {
            w.cut(0, 0);
            w.go(5);
        }
        CHECKS.due("it has 39", w.cut(0, 0), 40);
        w.go(5);
        CHECKS.due("it has 40", w.cut(0, 0), -1);
        CHECKS.due("the next face has none", w.cut(0, 1), 1);
    }

    private static void rests() {
        CHECKS.sentence("Whether a TREE RESTS");
        Woods w = withTree(100);
        w.tree(0, 0, 100);
        for (int year = 0; year < 4; year++) {
            w.goTo(365 * year);
            w.cut(0, 0);
        }
        CHECKS.fails("in year 3", w.rests(0));
        w.goTo(365 * 4);
        CHECKS.holds("in year 4", w.rests(0));
        CHECKS.fails("a tree that was never cut", w.rests(1));
        w.goTo(365 * 5);
        CHECKS.fails("in year 5", w.rests(0));
    }

    private static void restsOfNoTree() {
        CHECKS.sentence("false if there is none such.");
        Woods w = withTree(100);
        for (int year = 0; year <= 4; year++) {
            w.goTo(365 * year);
            w.cut(0, 0);
        }
        for (int tree : new int[] {LEAST, -1, 1, 59, 60, MOST}) {
            CHECKS.fails("tree " + tree + " of one", w.rests(tree));
        }
        CHECKS.holds("tree 0 of one", w.rests(0));
        CHECKS.fails("0 of none", new Woods().rests(0));
    }

    private static void goDays() {
        CHECKS.sentence("n DAYS end (0 .. 400; up to 3650): NOW");
        Woods w = withTree(100);
        w.cut(0, 0);
        CHECKS.due("0", w.go(0), 0);
        CHECKS.due("nothing ran", w.count(3), 0);
        CHECKS.due("1", w.go(1), 1);
        CHECKS.due("a day ran", w.count(3), 30);
        CHECKS.due("2", w.go(2), 3);
        CHECKS.due("three days ran", w.count(3), 75);
        CHECKS.due("399", w.go(399), 402);
        CHECKS.due("ten days ran", w.count(3), 125);
        CHECKS.due("400", w.go(400), 802);
    }

    private static void goUpTo3650() {
        CHECKS.sentence("up to 3650");
        Woods exact = withTree(100);
        exact.goTo(3250);
        CHECKS.due("3250 and 400", exact.go(400), 3650);
        Woods w = withTree(100);
        w.goTo(3251);
        CHECKS.due("3251 and 398", w.go(398), 3649);
        w.cut(0, 0);
        CHECKS.due("3649 and 400", w.go(400), 3650);
        CHECKS.due("one day ran", w.count(3), 30);
        CHECKS.due("3650 and 0", w.go(0), 3650);
        CHECKS.due("3650 and 1", w.go(1), 3650);
        CHECKS.due("3650 and 400", w.go(400), 3650);
        CHECKS.due("no more ran", w.count(3), 30);
        CHECKS.due("now", w.count(0), 3650);
    }

    private static void goAnotherN() {
        CHECKS.sentence("NONE for another n.");
        Woods w = withTree(100);
        for (int n : new int[] {LEAST, -1, 401, MOST}) {
            CHECKS.due("n " + n, w.go(n), -1);
        }
        CHECKS.due("now", w.count(0), 0);
        w.goTo(3650);
        CHECKS.due("-1 at the end", w.go(-1), -1);
        CHECKS.due("401 at the end", w.go(401), -1);
        CHECKS.due("the most at the end", w.go(MOST), -1);
        CHECKS.due("now at the end", w.count(0), 3650);
    }

    private static void faceTells() {
        CHECKS.sentence("Of a FACE: 0 STREAKS, 1 the DAY of the latest one, 2 the YEAR in which it was opened,"
            + " 3 what its CUP has, 4 .. 7 of which GRADE, 8 what RAN OVER ever.");
        Woods w = withTree(150);
        w.calm();
        int[] amounts = {11, 22, 33, 44, 55};
        int[] years = {1, 2, 3, 4, 6};
        for (int i = 0; i < amounts.length; i++) {
            w.goTo(365 * years[i]);
            w.fill(0, 0, amounts[i]);
        }
        int[] want = {5, 365 * 6, 1, 165, 11, 22, 33, 99, 0};
        for (int what = 0; what <= 8; what++) {
            CHECKS.due("what " + what, w.face(0, 0, what), want[what]);
        }
        w.fill(0, 0, 240);
        CHECKS.due("ran over", w.face(0, 0, 8), 5);
        w.empty(0);
        w.fill(0, 0, 402);
        CHECKS.due("ran over ever", w.face(0, 0, 8), 7);
        w.cut(0, 1);
        int[] opened = {1, w.now(), w.now() / 365, 0, 0, 0, 0, 0, 0};
        for (int what = 0; what <= 8; what++) {
            CHECKS.due("the other face, what " + what, w.face(0, 1, what), opened[what]);
        }
    }

    private static void faceOther() {
        CHECKS.sentence("NONE for others");
        Woods w = withTree(100);
        w.cut(0, 0);
        for (int what : new int[] {LEAST, -1, 9, 10, MOST}) {
            CHECKS.due("what " + what, w.face(0, 0, what), -1);
        }
        CHECKS.due("what 0", w.face(0, 0, 0), 1);
        CHECKS.due("what 8", w.face(0, 0, 8), 0);
    }

    private static void faceOfNone() {
        CHECKS.sentence("NONE for others, or if there is none such.");
        Woods w = new Woods();
        CHECKS.due("tree 0 of none", w.face(0, 0, 0), -1);
        w.tree(0, 0, 220);
        CHECKS.due("face 0 of none", w.face(0, 0, 0), -1);
        w.cutFaces(0, 2);
        for (int face : new int[] {LEAST, -1, 2, 3, MOST}) {
            CHECKS.due("face " + face + " of two", w.face(0, face, 0), -1);
        }
        CHECKS.due("face 1 of two", w.face(0, 1, 0), 1);
        for (int tree : new int[] {LEAST, -1, 1, 59, 60, MOST}) {
            CHECKS.due("tree " + tree + " of one", w.face(tree, 0, 0), -1);
        }
    }

    private static void callsAreUpTo512() {
        CHECKS.sentence("An object is used for at most 512 calls after it has been made");
        Woods w = withTree(100);
        while (w.calls() < Woods.MOST_CALLS - 1) {
            w.go(7);
        }
        CHECKS.due("the 512th", w.cut(0, 0), 1);
    }
}
