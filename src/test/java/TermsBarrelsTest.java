/** "Terms", the third part: BARRELS, GRADES, stills and RENTS, sentence by sentence. */
public final class TermsBarrelsTest {
    private static final Checks CHECKS = new Checks();
    private static final int REFUSED = -2147483648;

    public static void main(String[] args) {
        cupsComeToTheWoodsBarrels();
        faceByFace();
        gradeByGradeFrom0On();
        barrelsHold1000();
        oneMoreThan1000NeedsTwoBarrels();
        oneMoreFillsABarrelOf999();
        barrelsHaveNumbersAsTheyCome();
        barrelsAreAtMost200();
        at199OneMoreMayCome();
        at200TheLastMayBeFilled();
        barrelsThatArentFullAreFilledFirst();
        barrelsKnowGradesAndTrees();
        gradeOfABarrelIsCut();
        aFifthIsSpirit();
        rosinIsByGrade();
        stilledBarrelsAreFull();
        paidBarrelsAreFull();
        rentsAre0To100();
        dueIsFromThenOn();
        dueIsCutOfAllTogether();
        barrelsArePaidWhole();
        goneBarrelsArentPaid();
        CHECKS.end();
    }

    private static Woods calmWithTree(int girth) {
        Woods w = new Woods();
        w.tree(0, 0, girth);
        w.calm();
        return w;
    }

    private static void cupsComeToTheWoodsBarrels() {
        CHECKS.sentence("A TREE is EMPTIED: what its CUPS have comes to BARRELS of its WOOD");
        Woods w = new Woods();
        w.calm();
        w.tree(4, 0, 220);
        w.tree(4, 0, 100);
        for (int face = 0; face < 3; face++) {
            w.fill(0, face, 10 + face);
        }
        w.fill(1, 0, 7);
        CHECKS.due("emptied", w.empty(0), 33);
        for (int face = 0; face < 3; face++) {
            CHECKS.due("left in cup " + face, w.face(0, face, 3), 0);
            CHECKS.due("left of grade 0 in cup " + face, w.face(0, face, 4), 0);
        }
        CHECKS.due("the other tree's cup", w.face(1, 0, 3), 7);
        CHECKS.due("the barrel has", w.barrel(0, 0), 33);
        CHECKS.due("the barrel's wood", w.barrel(0, 6), 4);
        CHECKS.due("emptied again: nothing", w.empty(0), 0);
        CHECKS.due("the barrel has as much", w.barrel(0, 0), 33);
    }

    private static void dueGrades(Woods w, int b, int[] want) {
        for (int grade = 0; grade < 4; grade++) {
            CHECKS.due("barrel " + b + ", grade " + grade, w.barrel(b, 1 + grade), want[grade]);
        }
    }

    private static void faceByFace() {
        CHECKS.sentence("FACE by FACE");
        Woods w = calmWithTree(220);
        w.fill(0, 0, 100);
        w.fill(0, 1, 400);
        w.goTo(365);
        w.fill(0, 0, 300);
        w.fill(0, 2, 400);
        CHECKS.due("1200", w.empty(0), 1200);
        dueGrades(w, 0, new int[] {100 + 400 + 200, 300, 0, 0});
        dueGrades(w, 1, new int[] {200, 0, 0, 0});
    }

    private static void gradeByGradeFrom0On() {
        CHECKS.sentence("GRADE by GRADE from 0 on");
        Woods w = calmWithTree(220);
        w.fill(0, 0, 400);
        w.fill(0, 1, 400);
        w.fill(0, 2, 90);
        w.goTo(365);
        w.fill(0, 2, 80);
        w.goTo(730);
        w.fill(0, 2, 70);
        w.goTo(1095);
        w.fill(0, 2, 60);
        CHECKS.due("1100", w.empty(0), 1100);
        dueGrades(w, 0, new int[] {890, 80, 30, 0});
        dueGrades(w, 1, new int[] {0, 0, 40, 60});
    }

    private static void barrelsHold1000() {
        CHECKS.sentence("each BARREL holds 1000");
        Woods w = new Woods();
        w.calm();
        CHECKS.due("1000", w.empty(w.treeWith800And(200, 0)), 1000);
        CHECKS.due("one barrel", w.count(2), 1);
        CHECKS.due("it has 1000", w.barrel(0, 0), 1000);
        CHECKS.due("it is full", w.barrel(0, 7), 1);
        w.tree(0, 0, 100);
        w.fill(1, 0, 1);
        w.empty(1);
        CHECKS.due("then a second one comes", w.barrel(1, 0), 1);
        CHECKS.due("the first has 1000 yet", w.barrel(0, 0), 1000);
    }

    private static void oneMoreThan1000NeedsTwoBarrels() {
        CHECKS.sentence("each BARREL holds 1000");
        Woods w = new Woods();
        w.calm();
        CHECKS.due("1001", w.empty(w.treeWith800And(201, 0)), 1001);
        CHECKS.due("two barrels", w.count(2), 2);
        CHECKS.due("the first has 1000", w.barrel(0, 0), 1000);
        CHECKS.due("the second has 1", w.barrel(1, 0), 1);
        CHECKS.due("the second isn't full", w.barrel(1, 7), 0);
    }

    private static void oneMoreFillsABarrelOf999() {
        CHECKS.sentence("each BARREL holds 1000");
        Woods w = new Woods();
        w.calm();
        CHECKS.due("999", w.empty(w.treeWith800And(199, 0)), 999);
        CHECKS.due("not full", w.barrel(0, 7), 0);
        w.tree(0, 0, 100);
        w.fill(1, 0, 2);
        w.empty(1);
        CHECKS.due("one of two finds room", w.barrel(0, 0), 1000);
        CHECKS.due("full", w.barrel(0, 7), 1);
        CHECKS.due("the other one doesn't", w.barrel(1, 0), 1);
        CHECKS.due("one of the tree in the first", w.from(0, 1), 1);
        CHECKS.due("one of the tree in the second", w.from(1, 1), 1);
    }

    private static void barrelsHaveNumbersAsTheyCome() {
        CHECKS.sentence("BARRELS have numbers as they come");
        Woods w = new Woods();
        int[] woods = {3, 0, 5, 1};
        for (int i = 0; i < woods.length; i++) {
            w.tree(woods[i], 0, 100);
            w.cut(i, 0);
        }
        w.go(1);
        for (int i = 0; i < woods.length; i++) {
            CHECKS.due("not yet", w.barrel(i, 6), -1);
            w.empty(i);
            CHECKS.due("of all woods together", w.barrel(i, 6), woods[i]);
            CHECKS.due("barrels", w.count(2), i + 1);
        }
    }

    private static void barrelsAreAtMost200() {
        CHECKS.sentence("(of all WOODS together, at most 200)");
        Woods w = Woods.withStilledBarrels(199);
        w.tree(0, 0, 100);
        w.tree(1, 0, 100);
        w.fill(20, 0, 3);
        w.fill(21, 0, 4);
        CHECKS.due("the 200th, of another wood", w.empty(20), 3);
        CHECKS.due("200 are", w.count(2), 200);
        CHECKS.due("its number", w.barrel(199, 0), 3);
        CHECKS.due("the 201st, of a third wood", w.empty(21), -1);
        CHECKS.due("200 are yet", w.count(2), 200);
        CHECKS.due("the cup has it yet", w.face(21, 0, 3), 4);
    }

    private static void at199OneMoreMayCome() {
        CHECKS.sentence("at most 200");
        Woods w = Woods.withStilledBarrels(199);
        int tree = w.treeWith800And(200, 0);
        CHECKS.due("1000 need one", w.empty(tree), 1000);
        CHECKS.due("200 are", w.count(2), 200);
        Woods more = Woods.withStilledBarrels(199);
        int large = more.treeWith800And(201, 0);
        CHECKS.due("1001 would need two", more.empty(large), -1);
        CHECKS.due("199 are", more.count(2), 199);
        CHECKS.due("cup 0", more.face(large, 0, 3), 400);
        CHECKS.due("cup 2", more.face(large, 2, 3), 201);
        Woods two = Woods.withStilledBarrels(198);
        CHECKS.due("at 198 two may come", two.empty(two.treeWith800And(201, 0)), 1001);
        CHECKS.due("200 are then", two.count(2), 200);
    }

    private static void at200TheLastMayBeFilled() {
        CHECKS.sentence("at most 200");
        Woods w = Woods.withStilledBarrels(199);
        CHECKS.due("999 in the last", w.empty(w.treeWith800And(199, 0)), 999);
        w.tree(0, 0, 100);
        w.fill(21, 0, 2);
        CHECKS.due("two find no room", w.empty(21), -1);
        CHECKS.due("the last has 999 yet", w.barrel(199, 0), 999);
        w.tree(0, 0, 100);
        w.fill(22, 0, 1);
        CHECKS.due("one does", w.empty(22), 1);
        CHECKS.due("the last is full", w.barrel(199, 7), 1);
        CHECKS.due("an empty tree needs no room", w.empty(22), 0);
        w.fill(22, 0, 1);
        CHECKS.due("one more doesn't", w.empty(22), -1);
    }

    private static void barrelsThatArentFullAreFilledFirst() {
        CHECKS.sentence("a WOOD's BARREL that isn't full is filled first, then a new one comes.");
        Woods w = new Woods();
        w.calm();
        w.empty(w.treeWith800And(199, 0));
        w.tree(1, 0, 100);
        w.fill(1, 0, 30);
        w.empty(1);
        w.tree(0, 0, 100);
        w.fill(2, 0, 11);
        CHECKS.due("two barrels", w.count(2), 2);
        w.empty(2);
        CHECKS.due("its own wood's is filled first", w.barrel(0, 0), 1000);
        CHECKS.due("then a new one comes", w.barrel(2, 0), 10);
        CHECKS.due("of that wood", w.barrel(2, 6), 0);
        CHECKS.due("another wood's isn't filled, though it has room", w.barrel(1, 0), 30);
        w.fill(2, 0, 5);
        w.empty(2);
        CHECKS.due("the new one is filled on", w.barrel(2, 0), 15);
        CHECKS.due("three barrels", w.count(2), 3);
        w.burn(0);
        w.tree(0, 0, 100);
        w.fill(3, 0, 7);
        w.empty(3);
        CHECKS.due("a burnt wood's new tree fills it on as well", w.barrel(2, 0), 22);
    }

    private static void barrelsKnowGradesAndTrees() {
        CHECKS.sentence("Of each BARREL it is known how much of each GRADE it has, and how much of each TREE.");
        Woods w = calmWithTree(100);
        w.tree(0, 0, 100);
        w.fill(0, 0, 11);
        w.goTo(365);
        w.fill(0, 0, 13);
        w.fill(1, 0, 17);
        w.goTo(730);
        w.fill(0, 0, 19);
        w.fill(1, 0, 23);
        w.goTo(1095);
        w.fill(0, 0, 29);
        w.tree(1, 0, 100);
        w.empty(0);
        w.empty(1);
        dueGrades(w, 0, new int[] {11 + 17, 13 + 23, 19, 29});
        CHECKS.due("of tree 0", w.from(0, 0), 11 + 13 + 19 + 29);
        CHECKS.due("of tree 1", w.from(0, 1), 17 + 23);
        CHECKS.due("of tree 2", w.from(0, 2), 0);
        CHECKS.due("of all", w.barrel(0, 0), 112);
    }

    /** In year 3: wood 0 has a tree of each grade, by its number. */
    private static Woods withTreeOfEachGrade() {
        Woods w = new Woods();
        w.calm();
        for (int tree = 0; tree < 4; tree++) {
            w.tree(0, 0, 100);
        }
        for (int year = 0; year < 4; year++) {
            w.goTo(year * 365);
            w.cut(3 - year, 0);
        }
        w.go(10);
        return w;
    }

    /** The barrel of so much of each grade. */
    private static Woods barrelOf(int... ofGrades) {
        Woods w = withTreeOfEachGrade();
        for (int grade = 0; grade < ofGrades.length; grade++) {
            w.fill(grade, 0, ofGrades[grade]);
            w.empty(grade);
        }
        return w;
    }

    private static void gradeOfABarrelIsCut() {
        CHECKS.sentence("GRADE of a BARREL: the sum of its GRADES' numbers times what it has of them,"
            + " by what it has (cut).");
        CHECKS.due("of grade 0 alone", barrelOf(9, 0, 0, 0).barrel(0, 5), 0);
        CHECKS.due("of grade 1 alone", barrelOf(0, 9, 0, 0).barrel(0, 5), 1);
        CHECKS.due("of grade 2 alone", barrelOf(0, 0, 9, 0).barrel(0, 5), 2);
        CHECKS.due("of grade 3 alone", barrelOf(0, 0, 0, 9).barrel(0, 5), 3);
        CHECKS.due("one of grade 3", barrelOf(0, 0, 0, 1).barrel(0, 5), 3);
        CHECKS.due("399 by 400", barrelOf(1, 399, 0, 0).barrel(0, 5), 0);
        CHECKS.due("10 by 11", barrelOf(6, 0, 5, 0).barrel(0, 5), 0);
        CHECKS.due("12 by 12", barrelOf(6, 0, 6, 0).barrel(0, 5), 1);
        CHECKS.due("23 by 12", barrelOf(0, 1, 11, 0).barrel(0, 5), 1);
        CHECKS.due("11 by 6", barrelOf(2, 0, 1, 3).barrel(0, 5), 1);
        CHECKS.due("12 by 6", barrelOf(2, 0, 0, 4).barrel(0, 5), 2);
        CHECKS.due("20 by 7", barrelOf(0, 0, 1, 6).barrel(0, 5), 2);
        CHECKS.due("672 by 225", barrelOf(1, 0, 0, 224).barrel(0, 5), 2);
        Woods w = barrelOf(1, 0, 0, 2);
        CHECKS.due("6 by 3", w.barrel(0, 5), 2);
        w.fill(1, 0, 1);
        w.empty(1);
        CHECKS.due("7 by 4, as more comes", w.barrel(0, 5), 1);
    }

    private static void aFifthIsSpirit() {
        CHECKS.sentence("STILLED: a fifth of it (cut) is SPIRIT");
        int[] has = {1, 4, 5, 9, 10, 399, 400};
        int[] spirit = {0, 0, 1, 1, 2, 79, 80};
        for (int i = 0; i < has.length; i++) {
            Woods w = barrelOf(has[i], 0, 0, 0);
            CHECKS.due("still of " + has[i], w.still(0) / 10000, spirit[i]);
            CHECKS.due("spirit of " + has[i], w.count(9), spirit[i]);
        }
        Woods full = new Woods();
        full.calm();
        full.empty(full.treeWith800And(200, 0));
        CHECKS.due("still of a full barrel", full.still(0) / 10000, 200);
        Woods less = new Woods();
        less.calm();
        less.empty(less.treeWith800And(199, 0));
        CHECKS.due("still of 999", less.still(0) / 10000, 199);
    }

    private static void dueRosin(int want, int... ofGrades) {
        Woods w = barrelOf(ofGrades);
        CHECKS.due("rosin of the still", w.still(0) % 10000, want);
        CHECKS.due("rosin", w.count(10), want);
    }

    private static void rosinIsByGrade() {
        CHECKS.sentence("ROSIN are 70 parts of 100 of it (cut) with GRADE 0, 65, 60, 55 with 1, 2, 3.");
        int[] has = {1, 2, 19, 20, 99, 100};
        int[][] rosin = {{0, 1, 13, 14, 69, 70}, {0, 1, 12, 13, 64, 65}, {0, 1, 11, 12, 59, 60}, {0, 1, 10, 11, 54, 55}};
        for (int grade = 0; grade < 4; grade++) {
            for (int i = 0; i < has.length; i++) {
                int[] ofGrades = new int[4];
                ofGrades[grade] = has[i];
                dueRosin(rosin[grade][i], ofGrades);
            }
        }
        dueRosin(70, 50, 1, 49, 0);
        dueRosin(65, 50, 0, 50, 0);
        dueRosin(65, 1, 0, 98, 1);
        dueRosin(60, 0, 1, 98, 1);
        dueRosin(60, 0, 0, 1, 99);
    }

    private static void stilledBarrelsAreFull() {
        CHECKS.sentence("A BARREL that is STILLED or PAID is full.");
        Woods w = calmWithTree(100);
        w.fill(0, 0, 6);
        w.empty(0);
        CHECKS.due("not ahead", w.barrel(0, 7), 0);
        w.still(0);
        CHECKS.due("stilled", w.barrel(0, 7), 1);
        w.fill(0, 0, 8);
        w.empty(0);
        CHECKS.due("nothing comes to it", w.barrel(0, 0), 6);
        CHECKS.due("a new one comes", w.barrel(1, 0), 8);
    }

    private static void paidBarrelsAreFull() {
        CHECKS.sentence("STILLED or PAID is full");
        Woods w = calmWithTree(100);
        w.let(0, 0);
        w.fill(0, 0, 6);
        w.empty(0);
        CHECKS.due("not ahead", w.barrel(0, 7), 0);
        w.pay(0);
        CHECKS.due("paid", w.barrel(0, 7), 1);
        w.fill(0, 0, 8);
        w.empty(0);
        CHECKS.due("nothing comes to it", w.barrel(0, 0), 6);
        CHECKS.due("a new one comes", w.barrel(1, 0), 8);
    }

    private static void rentsAre0To100() {
        CHECKS.sentence("A WOOD is LET for a RENT (0 .. 100)");
        Woods w = new Woods();
        w.calm();
        int[] rents = {0, 1, 99, 100};
        for (int wood = 0; wood < rents.length; wood++) {
            w.tree(wood, 0, 100);
            CHECKS.holds("rent " + rents[wood], w.let(wood, rents[wood]));
            CHECKS.fails("rent -1", w.let(wood, -1));
            CHECKS.fails("rent 101", w.let(wood, 101));
            w.fill(wood, 0, 200);
            w.empty(wood);
            CHECKS.due("due by " + rents[wood], w.due(wood), 2 * rents[wood]);
        }
    }

    private static void dueIsFromThenOn() {
        CHECKS.sentence("so many parts of 100 of all that is EMPTIED there from then on are DUE");
        Woods w = calmWithTree(100);
        w.tree(0, 0, 100);
        w.tree(1, 0, 100);
        w.fill(0, 0, 40);
        w.empty(0);
        w.fill(0, 0, 30);
        w.let(0, 50);
        CHECKS.due("emptied ahead", w.due(0), 0);
        w.empty(0);
        CHECKS.due("ran ahead, emptied behind", w.due(0), 15);
        w.fill(1, 0, 20);
        CHECKS.due("not emptied yet", w.due(0), 15);
        w.empty(1);
        CHECKS.due("all trees of the wood", w.due(0), 25);
        w.fill(2, 0, 90);
        w.empty(2);
        CHECKS.due("not those of another wood", w.due(0), 25);
    }

    private static void dueIsCutOfAllTogether() {
        CHECKS.sentence("(cut, of all together)");
        Woods w = calmWithTree(100);
        w.let(0, 1);
        int[] emptied = {50, 49, 1, 99, 1};
        int[] due = {0, 0, 1, 1, 2};
        int all = 0;
        for (int i = 0; i < emptied.length; i++) {
            w.fill(0, 0, emptied[i]);
            w.empty(0);
            all += emptied[i];
            CHECKS.due("1 of 100 of " + all, w.due(0), due[i]);
        }
        w.let(0, 99);
        w.fill(0, 0, 1);
        w.empty(0);
        CHECKS.due("99 of 100 of 1", w.due(0), 0);
        CHECKS.due("200 and 1 are paid", w.pay(0), -201);
        w.fill(0, 0, 1);
        w.empty(0);
        CHECKS.due("99 of 100 of 2, less 201: what is due is cut, not the rest", w.due(0), 1 - 201);
    }

    private static void barrelsArePaidWhole() {
        CHECKS.sentence("PAID are BARRELS whole (that aren't STILLED or PAID): what they have.");
        Woods w = calmWithTree(100);
        w.tree(0, 0, 100);
        w.fill(0, 0, 40);
        w.empty(0);
        w.let(0, 100);
        w.fill(1, 0, 30);
        w.empty(1);
        CHECKS.due("due", w.due(0), 30);
        CHECKS.due("70 are paid", w.pay(0), 30 - 70);
        CHECKS.due("it has them yet", w.barrel(0, 0), 70);
        w.fill(1, 0, 45);
        w.empty(1);
        CHECKS.due("what was paid more counts on", w.due(0), 75 - 70);
        CHECKS.due("45 more are paid", w.pay(1), 5 - 45);
    }

    private static void goneBarrelsArentPaid() {
        CHECKS.sentence("(that aren't STILLED or PAID)");
        Woods w = calmWithTree(100);
        w.let(0, 100);
        w.fill(0, 0, 40);
        w.empty(0);
        w.still(0);
        CHECKS.due("stilled", w.pay(0), REFUSED);
        CHECKS.due("due", w.due(0), 40);
        w.fill(0, 0, 30);
        w.empty(0);
        CHECKS.due("paid", w.pay(1), 40);
        CHECKS.due("paid again", w.pay(1), REFUSED);
        CHECKS.due("due yet", w.due(0), 40);
    }
}
