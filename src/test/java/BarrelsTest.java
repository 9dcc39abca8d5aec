/** Promises 9 to 12: empty, barrel, from, still. */
public final class BarrelsTest {
    private static final Checks CHECKS = new Checks();

    public static void main(String[] args) {
        cupsComeToABarrel();
        barrelsFillByFacesAndGrades();
        aFullBarrelIsFollowedOnlyIfNeeded();
        woodsHaveBarrelsOfTheirOwn();
        goneBarrelsAreFull();
        twoHundredBarrelsAtMost();
        aThousandIsOneBarrel();
        barrelsAreGraded();
        barrelsAreStilled();
        wrongNumbersAreRefused();
        CHECKS.end();
    }

    /** A wood of trees with three faces each, on which a streak has just been cut. */
    private static Woods tapped(int trees, int warmth) {
        Woods w = new Woods();
        w.weather(0, 3649, warmth, 0);
        for (int i = 0; i < trees; i++) {
            w.tree(0, i, 300);
            cutAll(w, i);
        }
        return w;
    }

    private static void cutAll(Woods w, int tree) {
        for (int face = 0; face < 3; face++) {
            w.cut(tree, face);
        }
    }

    private static void cupsComeToABarrel() {
        Woods w = tapped(2, 1);
        CHECKS.due("nothing is emptied", w.empty(0), 0);
        CHECKS.due("no barrel for nothing", w.count(2), 0);
        w.go(1);
        CHECKS.due("three cups", w.empty(0), 18);
        CHECKS.due("a barrel", w.count(2), 1);
        CHECKS.due("the cup is empty", w.face(0, 2, 3), 0);
        CHECKS.due("its grade too", w.face(0, 2, 4), 0);
        CHECKS.due("once more", w.empty(0), 0);
        CHECKS.due("the other tree's", w.empty(1), 18);
        CHECKS.due("one barrel yet", w.count(2), 1);
        CHECKS.due("of tree 0", w.from(0, 0), 18);
        CHECKS.due("of tree 1", w.from(0, 1), 18);
        CHECKS.due("of both", w.barrel(0, 0), 36);
        CHECKS.due("not full", w.barrel(0, 7), 0);
        CHECKS.due("emptied", w.count(8), 36);
        CHECKS.due("in cups", w.count(7), 0);
        w.go(1);
        CHECKS.due("a streak runs on", w.empty(0), 15);
        CHECKS.due("more of tree 0", w.from(0, 0), 33);
    }

    private static void barrelsFillByFacesAndGrades() {
        Woods w = new Woods();
        w.tree(0, 0, 300);
        w.weather(0, 3649, 9, 0);
        w.go(360);
        cutAll(w, 0);
        w.go(5);
        cutAll(w, 0);
        w.go(5);
        cutAll(w, 0);
        w.go(5);
        CHECKS.due("180 of grade 0", w.face(0, 0, 4), 180);
        CHECKS.due("220 of grade 1", w.face(0, 0, 5), 220);
        CHECKS.due("three full cups", w.empty(0), 1200);
        CHECKS.due("two barrels", w.count(2), 2);
        CHECKS.due("faces 0 and 1 whole, of face 2 grade 0 first", w.barrel(0, 1), 540);
        CHECKS.due("of face 2's grade 1 what has room", w.barrel(0, 2), 460);
        CHECKS.due("the first is full", w.barrel(0, 7), 1);
        CHECKS.due("no grade 0 is left", w.barrel(1, 1), 0);
        CHECKS.due("the rest of grade 1", w.barrel(1, 2), 200);
        CHECKS.due("the second isn't full", w.barrel(1, 7), 0);
        CHECKS.due("of tree 0 in the first", w.from(0, 0), 1000);
        CHECKS.due("of tree 0 in the second", w.from(1, 0), 200);
    }

    private static void fillCups(Woods w, int trees) {
        for (int times = 0; times < 3; times++) {
            for (int tree = 0; tree < trees; tree++) {
                cutAll(w, tree);
            }
            w.go(5);
        }
    }

    private static void aFullBarrelIsFollowedOnlyIfNeeded() {
        Woods v = new Woods();
        v.weather(0, 3649, 9, 0);
        v.tree(3, 0, 300);
        v.tree(3, 0, 300);
        fillCups(v, 2);
        for (int i = 0; i < 5; i++) {
            v.empty(i % 2);
            fillCups(v, 2);
        }
        CHECKS.due("6000 come to six barrels, not seven", v.count(2), 6);
        CHECKS.due("the sixth is full", v.barrel(5, 7), 1);
        CHECKS.due("1000 in it", v.barrel(5, 0), 1000);
        v.empty(0);
        CHECKS.due("then the seventh and eighth come", v.count(2), 8);
    }

    private static void woodsHaveBarrelsOfTheirOwn() {
        Woods w = new Woods();
        for (int i = 0; i < 6; i++) {
            w.tree(5 - i, 0, 100);
            w.cut(i, 0);
        }
        w.tree(5, 0, 100);
        w.cut(6, 0);
        w.go(1);
        for (int i = 0; i < 6; i++) {
            w.empty(i);
            CHECKS.due("wood of barrel " + i, w.barrel(i, 6), 5 - i);
        }
        w.empty(6);
        CHECKS.due("the wood's own barrel is filled first", w.count(2), 6);
        CHECKS.due("in barrel 0", w.barrel(0, 0), 60);
        CHECKS.due("of tree 6 in barrel 0", w.from(0, 6), 30);
        CHECKS.due("of tree 6 in barrel 1", w.from(1, 6), 0);
    }

    private static void goneBarrelsAreFull() {
        Woods w = tapped(3, 1);
        w.let(0, 10);
        w.go(1);
        w.empty(0);
        w.still(0);
        CHECKS.due("a stilled barrel is full", w.barrel(0, 7), 1);
        CHECKS.due("it is stilled", w.barrel(0, 8), 1);
        CHECKS.due("it isn't paid", w.barrel(0, 9), 0);
        CHECKS.due("it is told yet", w.barrel(0, 0), 18);
        w.empty(1);
        CHECKS.due("a new one comes", w.count(2), 2);
        w.pay(1);
        CHECKS.due("a paid barrel is full", w.barrel(1, 7), 1);
        CHECKS.due("it is paid", w.barrel(1, 9), 1);
        CHECKS.due("it isn't stilled", w.barrel(1, 8), 0);
        w.empty(2);
        CHECKS.due("one more comes", w.count(2), 3);
        CHECKS.due("18 in it", w.barrel(2, 0), 18);
    }

    /**
     * 199 stilled barrels, a tree (20) of wood 0 with three full cups, and trees of wood 1 (21) and of wood 0 (22)
     * with a full one; it takes some 470 of the 512 calls.
     */
    private static Woods withStilledBarrels() {
        Woods w = new Woods();
        w.weather(0, 3649, 9, 0);
        for (int tree = 0; tree < 20; tree++) {
            w.tree(5, 0, 80);
            w.cut(tree, 0);
        }
        w.tree(0, 0, 300);
        w.tree(1, 0, 80);
        w.tree(0, 0, 80);
        int barrels = 0;
        for (int day = 0; day < 10; day++) {
            if (day % 5 == 0) {
                cutOthers(w);
            }
            w.go(1);
            for (int tree = 0; tree < 20 && barrels < 199; tree++) {
                w.empty(tree);
                w.still(barrels);
                barrels++;
            }
        }
        cutOthers(w);
        w.go(5);
        return w;
    }

    private static void cutOthers(Woods w) {
        cutAll(w, 20);
        w.cut(21, 0);
        w.cut(22, 0);
    }

    private static void twoHundredBarrelsAtMost() {
        Woods w = withStilledBarrels();
        CHECKS.due("two more barrels would be too many", w.empty(20), -1);
        CHECKS.due("no barrel came", w.count(2), 199);
        CHECKS.due("nothing left the first cup", w.face(20, 0, 3), 400);
        CHECKS.due("the 200th barrel", w.empty(22), 400);
        CHECKS.due("200 barrels", w.count(2), 200);
        CHECKS.due("another wood has no barrel", w.empty(21), -1);
        CHECKS.due("1200 don't find room in 600", w.empty(20), -1);
        CHECKS.due("the 200th has 400 yet", w.barrel(199, 0), 400);
        for (int times = 0; times < 2; times++) {
            w.cut(22, 0);
            w.go(9);
        }
        CHECKS.due("400 find room", w.empty(22), 400);
        CHECKS.due("an empty tree needs no barrel", w.empty(22), 0);
        w.weather(33, 41, 8, 0);
        w.cut(22, 0);
        CHECKS.due("201 run", w.go(10), 43);
        CHECKS.due("201 don't find room in 200", w.empty(22), -1);
        w.weather(43, 48, 0, 1);
        w.go(1);
        CHECKS.due("199 do", w.empty(22), 199);
        w.cut(22, 0);
        w.weather(49, 49, 1, 0);
        w.go(6);
        CHECKS.due("exactly the last one does", w.empty(22), 1);
        CHECKS.due("the 200th is full", w.barrel(199, 7), 1);
        w.cut(22, 0);
        w.go(1);
        CHECKS.due("no more", w.empty(22), -1);
        CHECKS.due("no barrel 200", w.barrel(200, 0), -1);
        CHECKS.due("barrels", w.count(2), 200);
    }

    private static void aThousandIsOneBarrel() {
        Woods w = withStilledBarrels();
        w.tree(0, 0, 300);
        for (int times = 0; times < 3; times++) {
            w.cut(23, 0);
            w.cut(23, 1);
            w.go(5);
        }
        w.weather(30, 39, 8, 0);
        w.cut(23, 2);
        w.go(10);
        CHECKS.due("1000 come to the 200th barrel", w.empty(23), 1000);
        CHECKS.due("200 barrels", w.count(2), 200);
        CHECKS.due("it is full", w.barrel(199, 7), 1);
    }

    private static void barrelsAreGraded() {
        Woods w = new Woods();
        w.tree(2, 0, 80);
        w.weather(0, 3649, 1, 0);
        w.cut(0, 0);
        w.go(10);
        CHECKS.due("25 of grade 0", w.empty(0), 25);
        CHECKS.due("grade 0", w.barrel(0, 5), 0);
        w.go(355);
        w.cut(0, 0);
        w.go(10);
        w.go(355);
        w.cut(0, 0);
        w.go(10);
        w.empty(0);
        CHECKS.due("25 of grades 0, 1, 2: grade 1", w.barrel(0, 5), 1);
        w.go(355);
        w.cut(0, 0);
        w.go(1);
        w.empty(0);
        CHECKS.due("93 by 81, cut", w.barrel(0, 5), 1);
        int[] want = {81, 25, 25, 25, 6, 1, 2, 0, 0, 0};
        for (int what = 0; what < want.length; what++) {
            CHECKS.due("barrel(0, " + what + ")", w.barrel(0, what), want[what]);
        }
        w.still(0);
        w.go(8);
        w.empty(0);
        w.still(1);
        w.go(1);
        CHECKS.due("one unit", w.empty(0), 1);
        CHECKS.due("of grade 3", w.barrel(2, 5), 3);
    }

    private static void barrelsAreStilled() {
        int[] parts = {70, 65, 60, 55};
        Woods w = new Woods();
        w.tree(0, 0, 400);
        int spirit = 0;
        int rosin = 0;
        for (int year = 0; year < 6; year++) {
            if (year != 4) {
                int b = w.count(2);
                w.cut(0, 0);
                w.weather(w.count(0), w.count(0) + 9, 4, 0);
                w.go(9);
                CHECKS.due("96 run in year " + year, w.empty(0), 96);
                CHECKS.due("grade in year " + year, w.barrel(b, 5), Math.min(year, 3));
                int want = 96 * parts[Math.min(year, 3)] / 100;
                CHECKS.due("still in year " + year, w.still(b), 19 * 10000 + want);
                CHECKS.due("stilled once", w.still(b), -1);
                spirit += 19;
                rosin += want;
                w.go(1);
                w.empty(0);
                CHECKS.due("four units: no spirit", w.still(b + 1), 2);
                rosin += 2;
            } else {
                w.go(10);
            }
            w.go(355);
        }
        CHECKS.due("spirit", w.count(9), spirit);
        CHECKS.due("rosin", w.count(10), rosin);
        Woods v = tapped(1, 9);
        v.go(5);
        fillCups(v, 1);
        v.empty(0);
        CHECKS.due("a full barrel", v.still(0), 200 * 10000 + 700);
        v.let(0, 1);
        v.pay(1);
        CHECKS.due("a paid barrel isn't stilled", v.still(1), -1);
        CHECKS.due("spirit of one", v.count(9), 200);
        CHECKS.due("rosin of one", v.count(10), 700);
    }

    private static void wrongNumbersAreRefused() {
        Woods w = tapped(2, 9);
        w.go(1);
        w.empty(0);
        int[] wrong = {Integer.MIN_VALUE, -1, 2, 59, 60, 200, Integer.MAX_VALUE};
        for (int number : wrong) {
            CHECKS.due("empty(" + number + ")", w.empty(number), -1);
            CHECKS.due("barrel(" + number + ", 0)", w.barrel(number, 0), -1);
            CHECKS.due("from(" + number + ", 0)", w.from(number, 0), -1);
            CHECKS.due("from(0, " + number + ")", w.from(0, number), -1);
            CHECKS.due("still(" + number + ")", w.still(number), -1);
        }
        int[] whats = {Integer.MIN_VALUE, -1, 10, Integer.MAX_VALUE};
        for (int what : whats) {
            CHECKS.due("barrel(0, " + what + ")", w.barrel(0, what), -1);
        }
        CHECKS.due("from(1, 0)", w.from(1, 0), -1);
        CHECKS.due("from(0, 1): none of this tree", w.from(0, 1), 0);
    }
}
