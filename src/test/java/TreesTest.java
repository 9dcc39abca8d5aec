/** Promises 1 to 3: a new object, tree, bears. */
public final class TreesTest {
    private static final Checks CHECKS = new Checks();

    public static void main(String[] args) {
        newObjectIsBare();
        treesHaveNumbersAsTheyCome();
        wrongTreesAreRefused();
        sixtyTreesCome();
        girthsBearFaces();
        treesBearWhatTheirGirthBears();
        objectsShareNothing();
        CHECKS.end();
    }

    private static void newObjectIsBare() {
        Woods w = new Woods();
        CHECKS.due("NONE", ResinWoods.NONE, -1);
        for (int what = 0; what <= 10; what++) {
            CHECKS.due("a new object's count " + what, w.count(what), 0);
        }
        for (int wood = 0; wood < 6; wood++) {
            CHECKS.due("due of a new object's wood " + wood, w.due(wood), 0);
            w.tree(wood, 0, 100);
            w.cut(wood, 0);
        }
        w.go(1);
        for (int wood = 0; wood < 6; wood++) {
            CHECKS.due("first warmth is 5, first rain 0: tree " + wood, w.empty(wood), 30);
            CHECKS.due("no wood is let at first: " + wood, w.pay(wood), Integer.MIN_VALUE);
        }
    }

    private static void treesHaveNumbersAsTheyCome() {
        Woods w = new Woods();
        CHECKS.due("the first tree", w.tree(0, 0, 20), 0);
        CHECKS.due("a refused tree", w.tree(0, 0, 19), -1);
        CHECKS.due("the second tree, last wood, place and girth", w.tree(5, 9999, 400), 1);
        CHECKS.due("a third one at a like place", w.tree(5, 9999, 400), 2);
        CHECKS.due("trees", w.count(1), 3);
    }

    private static void wrongTreesAreRefused() {
        Woods w = new Woods();
        int[] woods = {Integer.MIN_VALUE, -1, 6, Integer.MAX_VALUE};
        for (int wood : woods) {
            CHECKS.due("tree of wood " + wood, w.tree(wood, 0, 100), -1);
        }
        int[] places = {Integer.MIN_VALUE, -1, 10000, Integer.MAX_VALUE};
        for (int where : places) {
            CHECKS.due("tree at " + where, w.tree(0, where, 100), -1);
        }
        int[] girths = {Integer.MIN_VALUE, -1, 0, 19, 401, Integer.MAX_VALUE};
        for (int girth : girths) {
            CHECKS.due("tree of girth " + girth, w.tree(0, 0, girth), -1);
            CHECKS.due("bears of girth " + girth, w.bears(girth), -1);
        }
        CHECKS.due("refused trees don't come", w.count(1), 0);
    }

    private static void sixtyTreesCome() {
        Woods w = new Woods();
        for (int i = 0; i < 60; i++) {
            CHECKS.due("tree " + i, w.tree(i % 6, i, 80), i);
        }
        CHECKS.due("the 61st tree", w.tree(0, 0, 80), -1);
        CHECKS.due("trees", w.count(1), 60);
        CHECKS.due("the last tree is cut", w.cut(59, 0), 1);
        CHECKS.due("no tree 60", w.cut(60, 0), -1);
    }

    private static void girthsBearFaces() {
        Woods w = new Woods();
        for (int girth = 20; girth <= 400; girth++) {
            int want = girth < 80 ? 0 : girth < 150 ? 1 : girth < 220 ? 2 : 3;
            CHECKS.due("bears(" + girth + ")", w.bears(girth), want);
        }
    }

    private static void treesBearWhatTheirGirthBears() {
        Woods w = new Woods();
        int[] girths = {20, 79, 80, 149, 150, 219, 220, 400};
        for (int i = 0; i < girths.length; i++) {
            w.tree(0, 0, girths[i]);
            int borne = w.bears(girths[i]);
            for (int face = 0; face <= 3; face++) {
                CHECKS.due("girth " + girths[i] + ", face " + face, w.cut(i, face), face < borne ? 1 : -1);
            }
        }
    }

    private static void objectsShareNothing() {
        Woods one = new Woods();
        Woods other = new Woods();
        one.tree(0, 0, 300);
        one.weather(0, 3649, 9, 9);
        one.let(0, 50);
        one.go(7);
        CHECKS.due("trees of the other", other.count(1), 0);
        CHECKS.due("now of the other", other.count(0), 0);
        other.tree(0, 0, 300);
        other.cut(0, 0);
        other.go(1);
        CHECKS.due("weather of the other", other.face(0, 0, 3), 30);
    }
}
