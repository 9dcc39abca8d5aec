import java.util.ArrayList;
import java.util.Arrays;
import java.util.List;

/** "What is refused changes nothing.": the other calls answer the same behind a refused call as ahead of it. */
public final class RefusedTest {
    private static final Checks CHECKS = new Checks();
    private static final int NONE = -1;
    private static final int NOT_PAID = -2147483648;
    private static final int LEAST = Integer.MIN_VALUE;
    private static final int MOST = Integer.MAX_VALUE;

    private interface Call {
        int on(Woods w);
    }

    private interface Maker {
        Woods make();
    }

    private record Step(String name, Call call) {
    }

    /** How to make an object, what to ask of it, and what to do later; every part is a run of its own. */
    private record Scene(String name, Maker maker, List<Step> questions, List<Step> later) {
    }

    public static void main(String[] args) {
        CHECKS.sentence("What is refused changes nothing.");
        questionsSeeEachChange();
        refusedOfANewObject();
        refusedTrees();
        refusedWeather();
        refusedCuts();
        refusedDays();
        refusedBarrels();
        refusedRents();
        refusedWalks();
        refusedQuestions();
        refusedTreeBehind60();
        refusedCutInARest();
        refusedCutInANewYear();
        refusedCutBehind40();
        refusedEmptyAt199Barrels();
        refusedEmptyAt200Barrels();
        refusedOnTheLastDay();
        CHECKS.end();
    }

    /** Asks the same object ahead of the call and behind it, so many questions at once as 512 calls allow. */
    private static void refused(Scene scene, String name, int answer, Call call) {
        String label = scene.name + ", " + name;
        int first = 0;
        while (first < scene.questions.size()) {
            Woods w = scene.maker.make();
            int end = Math.min(scene.questions.size(), first + room(w, 1) / 2);
            List<Step> some = scene.questions.subList(first, end);
            int[] ahead = ask(w, some);
            CHECKS.due(label, call.on(w), answer);
            compare(label + ", then ", some, ask(w, some), ahead);
            first = end;
        }
        laterIsAlike(scene, label, call);
    }

    /** Of two like objects one refuses the call: what they do later is alike as well. */
    private static void laterIsAlike(Scene scene, String label, Call call) {
        int first = 0;
        while (first < scene.questions.size()) {
            Woods one = scene.maker.make();
            Woods other = scene.maker.make();
            call.on(other);
            int end = Math.min(scene.questions.size(), first + room(other, scene.later.size()));
            compare(label + ", later ", scene.later, ask(other, scene.later), ask(one, scene.later));
            List<Step> some = scene.questions.subList(first, end);
            compare(label + ", later asked ", some, ask(other, some), ask(one, some));
            first = end;
        }
    }

    private static int room(Woods w, int spared) {
        int room = Woods.MOST_CALLS - w.calls() - spared;
        if (room < 2) {
            throw new IllegalStateException("no calls are left for a question");
        }
        return room;
    }

    private static int[] ask(Woods w, List<Step> steps) {
        int[] answers = new int[steps.size()];
        for (int i = 0; i < answers.length; i++) {
            answers[i] = steps.get(i).call.on(w);
        }
        return answers;
    }

    private static void compare(String label, List<Step> steps, int[] got, int[] want) {
        for (int i = 0; i < got.length; i++) {
            CHECKS.due(label + steps.get(i).name, got[i], want[i]);
        }
    }

    private static int bit(boolean is) {
        return is ? 1 : 0;
    }

    private static void add(List<Step> steps, String name, Call call) {
        steps.add(new Step(name, call));
    }

    /** All that can be asked of so many trees, of these barrels and of some walks. */
    private static List<Step> questions(int[] trees, int[] barrels, int[] lows) {
        List<Step> all = new ArrayList<>();
        for (int what = 0; what <= 10; what++) {
            int asked = what;
            add(all, "count(" + what + ")", w -> w.count(asked));
        }
        for (int wood = 0; wood <= 5; wood++) {
            int asked = wood;
            add(all, "due(" + wood + ")", w -> w.due(asked));
        }
        for (int tree : trees) {
            addTree(all, tree);
        }
        for (int b : barrels) {
            addBarrel(all, b, trees);
        }
        for (int low : lows) {
            addWalk(all, low, 0);
            addWalk(all, low, 9999);
        }
        add(all, "bears(100)", w -> w.bears(100));
        return all;
    }

    private static void addTree(List<Step> all, int tree) {
        add(all, "rests(" + tree + ")", w -> bit(w.rests(tree)));
        for (int face = 0; face < 3; face++) {
            int f = face;
            for (int what = 0; what <= 8; what++) {
                int asked = what;
                add(all, "face(" + tree + ", " + f + ", " + what + ")", w -> w.face(tree, f, asked));
            }
        }
    }

    private static void addBarrel(List<Step> all, int b, int[] trees) {
        for (int what = 0; what <= 9; what++) {
            int asked = what;
            add(all, "barrel(" + b + ", " + what + ")", w -> w.barrel(b, asked));
        }
        for (int tree : trees) {
            add(all, "from(" + b + ", " + tree + ")", w -> w.from(b, tree));
        }
    }

    private static void addWalk(List<Step> all, int low, int where) {
        String walk = "(" + low + ", 0, " + where + ", ";
        for (int k = 0; k < Integer.bitCount(low); k++) {
            int asked = k;
            add(all, "walk" + walk + k + ")", w -> w.walk(low, 0, where, asked));
        }
        add(all, "walked" + walk + "0)", w -> w.walked(low, 0, where, 0));
        add(all, "walked" + walk + "1)", w -> w.walked(low, 0, where, 1));
    }

    private static void addCuts(List<Step> all, int[] trees) {
        for (int tree : trees) {
            for (int face = 0; face < 3; face++) {
                int f = face;
                add(all, "cut(" + tree + ", " + f + ")", w -> w.cut(tree, f));
            }
        }
    }

    /** Days go, faces are cut, trees emptied, barrels stilled or paid, woods burnt and let. */
    private static List<Step> later(int[] trees, int[] barrels) {
        List<Step> all = new ArrayList<>();
        add(all, "go(1)", w -> w.go(1));
        addCuts(all, trees);
        add(all, "go(4)", w -> w.go(4));
        addCuts(all, trees);
        add(all, "go(10)", w -> w.go(10));
        add(all, "count(3)", w -> w.count(3));
        add(all, "count(5)", w -> w.count(5));
        for (int tree : trees) {
            add(all, "empty(" + tree + ")", w -> w.empty(tree));
        }
        add(all, "tree(4, 7, 300)", w -> w.tree(4, 7, 300));
        for (int b : barrels) {
            add(all, "pay(" + b + ")", w -> w.pay(b));
            add(all, "still(" + b + ")", w -> w.still(b));
        }
        add(all, "burn(1)", w -> w.burn(1));
        add(all, "let(1, 40)", w -> bit(w.let(1, 40)));
        return all;
    }

    private static final int[] WORKED_TREES = {0, 1, 2, 3, 4, 5};
    private static final int[] WORKED_BARRELS = {0, 1, 2, 3, 4, 5};

    /**
     * Tree 0 has three faces, tree 1 one, tree 2 one of two, tree 3 is burnt, tree 4 bears none. Barrel 0 is stilled,
     * 1 paid, 2 open, 3 is of a wood that isn't let, 4 of one that burnt. All cups are nearly full, and just cut.
     */
    private static Woods worked() {
        Woods w = new Woods();
        w.weather(0, 3649, 7, 1);
        int[][] trees = {{0, 0, 220}, {0, 4010, 100}, {1, 9999, 150}, {2, 5050, 150}, {3, 60, 79}};
        for (int[] tree : trees) {
            w.tree(tree[0], tree[1], tree[2]);
        }
        w.let(0, 30);
        w.let(2, 50);
        w.let(3, 0);
        cutWorked(w);
        w.go(3);
        w.empty(0);
        w.still(0);
        w.go(2);
        w.empty(0);
        w.pay(1);
        for (int tree = 1; tree <= 3; tree++) {
            w.empty(tree);
        }
        for (int times = 0; times < 3; times++) {
            cutWorked(w);
            w.go(5);
        }
        w.burn(2);
        cutWorked(w);
        return w;
    }

    private static void cutWorked(Woods w) {
        w.cutFaces(0, 3);
        for (int tree = 1; tree <= 3; tree++) {
            w.cut(tree, 0);
        }
    }

    private static Scene workedScene() {
        return new Scene("worked woods", RefusedTest::worked,
            questions(WORKED_TREES, WORKED_BARRELS, new int[] {1, 3, 7, 31, 6}), later(WORKED_TREES, WORKED_BARRELS));
    }

    /** Else the tests below would find nothing: each kind of change is seen at once or later. */
    private static void questionsSeeEachChange() {
        List<Step> changes = new ArrayList<>();
        add(changes, "tree", w -> w.tree(0, 0, 100));
        add(changes, "warmth", w -> bit(w.weather(w.now() + 2, w.now() + 2, 8, 1)));
        add(changes, "rain", w -> bit(w.weather(w.now() + 2, w.now() + 2, 7, 9)));
        add(changes, "cut", w -> w.cut(2, 1));
        add(changes, "go", w -> w.go(1));
        add(changes, "empty", w -> w.empty(0));
        add(changes, "still", w -> w.still(2));
        add(changes, "let", w -> bit(w.let(0, 31)));
        add(changes, "let of a wood that isn't", w -> bit(w.let(1, 0)));
        add(changes, "pay", w -> w.pay(2));
        add(changes, "burn", w -> w.burn(1));
        Scene scene = workedScene();
        List<Integer> unchanged = allAnswers(scene, new Step("nothing", w -> 1));
        for (Step change : changes) {
            int answer = change.call.on(scene.maker.make());
            CHECKS.fails(change.name + " is refused", answer == NONE || answer == NOT_PAID || answer == 0);
            CHECKS.fails(change.name + " isn't seen", allAnswers(scene, change).equals(unchanged));
        }
    }

    private static List<Integer> allAnswers(Scene scene, Step change) {
        List<Integer> all = new ArrayList<>();
        for (List<Step> steps : List.of(scene.questions, scene.later)) {
            Woods w = scene.maker.make();
            change.call.on(w);
            for (int answer : ask(w, steps)) {
                all.add(answer);
            }
        }
        return all;
    }

    private static void refusedOfANewObject() {
        int[] first = {0};
        Scene scene = new Scene("a new object", Woods::new, questions(first, first, new int[] {1}), later(first, first));
        refused(scene, "cut(0, 0)", NONE, w -> w.cut(0, 0));
        refused(scene, "rests(0)", 0, w -> bit(w.rests(0)));
        refused(scene, "face(0, 0, 0)", NONE, w -> w.face(0, 0, 0));
        refused(scene, "empty(0)", NONE, w -> w.empty(0));
        refused(scene, "barrel(0, 0)", NONE, w -> w.barrel(0, 0));
        refused(scene, "from(0, 0)", NONE, w -> w.from(0, 0));
        refused(scene, "still(0)", NONE, w -> w.still(0));
        refused(scene, "pay(0)", NOT_PAID, w -> w.pay(0));
        refused(scene, "due(0)", 0, w -> w.due(0));
        refused(scene, "walk(1, 0, 0, 0)", NONE, w -> w.walk(1, 0, 0, 0));
        refused(scene, "walked(1, 0, 0, 0)", NONE, w -> w.walked(1, 0, 0, 0));
    }

    private static void refusedTrees() {
        Scene scene = workedScene();
        for (int wood : new int[] {LEAST, -1, 6, MOST}) {
            refused(scene, "tree of wood " + wood, NONE, w -> w.tree(wood, 0, 100));
        }
        for (int where : new int[] {LEAST, -1, 10000, MOST}) {
            refused(scene, "tree at " + where, NONE, w -> w.tree(0, where, 100));
        }
        for (int girth : new int[] {LEAST, 19, 401, MOST}) {
            refused(scene, "tree of girth " + girth, NONE, w -> w.tree(0, 0, girth));
            refused(scene, "bears of girth " + girth, NONE, w -> w.bears(girth));
        }
    }

    private static void refusedWeather() {
        Scene scene = workedScene();
        for (int wrong : new int[] {LEAST, -1, 10, MOST}) {
            refused(scene, "warmth " + wrong, 0, w -> bit(w.weather(w.now(), w.now() + 9, wrong, 9)));
            refused(scene, "rain " + wrong, 0, w -> bit(w.weather(w.now(), w.now() + 9, 9, wrong)));
        }
        refused(scene, "from below now", 0, w -> bit(w.weather(w.now() - 1, w.now() + 9, 9, 9)));
        refused(scene, "from the least", 0, w -> bit(w.weather(LEAST, w.now() + 9, 9, 9)));
        refused(scene, "to below from", 0, w -> bit(w.weather(w.now() + 2, w.now() + 1, 9, 9)));
        refused(scene, "to the least", 0, w -> bit(w.weather(w.now(), LEAST, 9, 9)));
        refused(scene, "to 3650", 0, w -> bit(w.weather(w.now(), 3650, 9, 9)));
        refused(scene, "to the most", 0, w -> bit(w.weather(w.now(), MOST, 9, 9)));
    }

    private static void refusedCuts() {
        Scene scene = workedScene();
        for (int tree : new int[] {LEAST, -1, 5, 60, MOST}) {
            refused(scene, "cut of tree " + tree, NONE, w -> w.cut(tree, 0));
        }
        refused(scene, "cut of a burnt tree", NONE, w -> w.cut(3, 0));
        refused(scene, "cut of a burnt tree's next face", NONE, w -> w.cut(3, 1));
        refused(scene, "cut of a tree that bears none", NONE, w -> w.cut(4, 0));
        for (int face : new int[] {LEAST, -1, 3, MOST}) {
            refused(scene, "cut of tree 0's face " + face, NONE, w -> w.cut(0, face));
        }
        refused(scene, "cut of a second face of one", NONE, w -> w.cut(1, 1));
        refused(scene, "cut behind the next face", NONE, w -> w.cut(2, 2));
        for (int face = 0; face < 3; face++) {
            int early = face;
            refused(scene, "too early on face " + face, NONE, w -> w.cut(0, early));
        }
    }

    private static void refusedDays() {
        Scene scene = workedScene();
        for (int n : new int[] {LEAST, -1, 401, MOST}) {
            refused(scene, "go(" + n + ")", NONE, w -> w.go(n));
        }
    }

    private static void refusedBarrels() {
        Scene scene = workedScene();
        for (int tree : new int[] {LEAST, -1, 5, 60, MOST}) {
            refused(scene, "empty(" + tree + ")", NONE, w -> w.empty(tree));
        }
        for (int b : new int[] {LEAST, -1, 0, 1, 5, 200, MOST}) {
            refused(scene, "still(" + b + ")", NONE, w -> w.still(b));
        }
        for (int b : new int[] {LEAST, -1, 0, 1, 3, 4, 5, 200, MOST}) {
            refused(scene, "pay(" + b + ")", NOT_PAID, w -> w.pay(b));
        }
    }

    private static void refusedRents() {
        Scene scene = workedScene();
        for (int wood : new int[] {LEAST, -1, 6, MOST}) {
            refused(scene, "let(" + wood + ", 50)", 0, w -> bit(w.let(wood, 50)));
            refused(scene, "due(" + wood + ")", 0, w -> w.due(wood));
            refused(scene, "burn(" + wood + ")", NONE, w -> w.burn(wood));
        }
        for (int rent : new int[] {LEAST, -1, 101, MOST}) {
            refused(scene, "let(0, " + rent + ")", 0, w -> bit(w.let(0, rent)));
            refused(scene, "let(1, " + rent + ")", 0, w -> bit(w.let(1, rent)));
        }
        refused(scene, "due(1), which isn't let", 0, w -> w.due(1));
        refused(scene, "due(2), which burnt", 0, w -> w.due(2));
    }

    private static void refusedWalks() {
        Scene scene = workedScene();
        int[][] wrong = {{0, 0, 0}, {127, 0, 0}, {33, 0, 0}, {1, 1, 0}, {1, 0, -1}, {1, 0, 10000}, {1 << 30, 0, 0},
            {0, 1 << 31, 0}, {-1, -1, 0}, {1, 0, LEAST}, {1, 0, MOST}};
        for (int[] a : wrong) {
            refused(scene, "walk " + Arrays.toString(a), NONE, w -> w.walk(a[0], a[1], a[2], 0));
            refused(scene, "walked " + Arrays.toString(a), NONE, w -> w.walked(a[0], a[1], a[2], 0));
        }
        for (int number : new int[] {LEAST, -1, 3, MOST}) {
            refused(scene, "walk, k " + number, NONE, w -> w.walk(7, 0, 0, number));
            refused(scene, "walked, what " + number, NONE, w -> w.walked(7, 0, 0, number));
        }
    }

    private static void refusedQuestions() {
        Scene scene = workedScene();
        for (int wrong : new int[] {LEAST, -1, 11, 200, MOST}) {
            refused(scene, "count(" + wrong + ")", NONE, w -> w.count(wrong));
            refused(scene, "face(0, 0, " + wrong + ")", NONE, w -> w.face(0, 0, wrong));
            refused(scene, "face(0, " + wrong + ", 0)", NONE, w -> w.face(0, wrong, 0));
            refused(scene, "face(" + wrong + ", 0, 0)", NONE, w -> w.face(wrong, 0, 0));
            refused(scene, "rests(" + wrong + ")", 0, w -> bit(w.rests(wrong)));
            refused(scene, "barrel(0, " + wrong + ")", NONE, w -> w.barrel(0, wrong));
            refused(scene, "barrel(" + wrong + ", 0)", NONE, w -> w.barrel(wrong, 0));
            refused(scene, "from(0, " + wrong + ")", NONE, w -> w.from(0, wrong));
            refused(scene, "from(" + wrong + ", 0)", NONE, w -> w.from(wrong, 0));
        }
    }

    private static Woods sixtyTrees() {
        Woods w = new Woods();
        for (int tree = 0; tree < 60; tree++) {
            w.tree(tree % 6, tree, 220);
            w.cut(tree, 0);
        }
        w.go(3);
        return w;
    }

    private static void refusedTreeBehind60() {
        int[] trees = {0, 58, 59, 60};
        int[] barrels = {0, 1};
        Scene scene = new Scene("sixty trees", RefusedTest::sixtyTrees, questions(trees, barrels, new int[] {1, 63}),
            later(trees, barrels));
        refused(scene, "a 61st tree", NONE, w -> w.tree(0, 0, 400));
        refused(scene, "cut of tree 60", NONE, w -> w.cut(60, 0));
        refused(scene, "a walk to seven", NONE, w -> w.walk(63, 1, 0, 0));
    }

    /** In year 4: tree 0 was cut in the years 0 to 3, tree 1 in 0, 2 and 3. */
    private static Woods resting() {
        Woods w = new Woods();
        w.tree(0, 0, 220);
        w.tree(1, 60, 220);
        for (int year = 0; year < 4; year++) {
            w.goTo(365 * year);
            w.cut(0, 0);
            if (year != 1) {
                w.cut(1, 0);
            }
        }
        w.goTo(365 * 4 + 20);
        return w;
    }

    private static void refusedCutInARest() {
        int[] trees = {0, 1, 2};
        int[] barrels = {0, 1};
        Scene scene = new Scene("a rest", RefusedTest::resting, questions(trees, barrels, new int[] {1, 3}), years(5));
        refused(scene, "cut of a resting tree", NONE, w -> w.cut(0, 0));
        refused(scene, "cut of a resting tree's next face", NONE, w -> w.cut(0, 1));
        refused(scene, "cut of a resting tree's face behind it", NONE, w -> w.cut(0, 2));
    }

    /** Year by year: whether trees 0 and 1 rest, streaks on them, and what comes of these. */
    private static List<Step> years(int many) {
        List<Step> all = new ArrayList<>();
        for (int year = 0; year < many; year++) {
            add(all, "go(365)", w -> w.go(365));
            add(all, "rests(0)", w -> bit(w.rests(0)));
            add(all, "rests(1)", w -> bit(w.rests(1)));
            addCuts(all, new int[] {0, 1});
            add(all, "empty(0)", w -> w.empty(0));
        }
        return all;
    }

    /** Early in year 1: a refused streak must not be one of year 1, or the trees would rest in year 4. */
    private static Woods newYear() {
        Woods w = new Woods();
        w.tree(0, 0, 150);
        w.tree(0, 0, 100);
        w.goTo(364);
        w.cut(0, 0);
        w.goTo(366);
        return w;
    }

    private static void refusedCutInANewYear() {
        int[] trees = {0, 1};
        int[] barrels = {0, 1};
        Scene scene = new Scene("a new year", RefusedTest::newYear, questions(trees, barrels, new int[] {1, 3}),
            years(5));
        refused(scene, "too early", NONE, w -> w.cut(0, 0));
        refused(scene, "behind the next face", NONE, w -> w.cut(0, 2));
        refused(scene, "face -1", NONE, w -> w.cut(0, -1));
        refused(scene, "behind the next face of an uncut tree", NONE, w -> w.cut(1, 1));
    }

    /** On the first day of year 1. */
    private static Woods forty() {
        Woods w = new Woods();
        w.tree(0, 0, 150);
        w.goTo(165);
        for (int streak = 0; streak < 40; streak++) {
            w.cut(0, 0);
            w.go(5);
        }
        return w;
    }

    private static void refusedCutBehind40() {
        int[] trees = {0};
        int[] barrels = {0, 1};
        List<Step> questions = questions(trees, barrels, new int[] {1});
        Scene scene = new Scene("forty streaks", RefusedTest::forty, questions, later(trees, barrels));
        refused(scene, "a 41st streak", NONE, w -> w.cut(0, 0));
        Scene longer = new Scene("forty streaks, later years", RefusedTest::forty, questions, years(5));
        refused(longer, "a 41st streak", NONE, w -> w.cut(0, 0));
    }

    /** A tree of wood 0, which is let, has 1001, for which two barrels would have to come. */
    private static Woods at199Barrels() {
        Woods w = Woods.withStilledBarrels(199);
        w.treeWith800And(201, 0);
        w.let(0, 100);
        return w;
    }

    /** The 200th barrel has 999; tree 21 has two for it, tree 22, of another wood, has one. */
    private static Woods at200Barrels() {
        Woods w = Woods.withStilledBarrels(199);
        w.let(0, 100);
        w.empty(w.treeWith800And(199, 0));
        w.tree(0, 0, 100);
        w.tree(1, 0, 100);
        w.fill(21, 0, 2);
        w.fill(22, 0, 1);
        return w;
    }

    private static void refusedEmptyAt199Barrels() {
        List<Step> later = new ArrayList<>();
        add(later, "tree(0, 0, 100)", w -> w.tree(0, 0, 100));
        add(later, "cut(21, 0)", w -> w.cut(21, 0));
        add(later, "warmth", w -> bit(w.weather(w.now(), w.now(), 1, 0)));
        add(later, "go(1)", w -> w.go(1));
        add(later, "empty(21)", w -> w.empty(21));
        Scene scene = new Scene("199 barrels", RefusedTest::at199Barrels,
            questions(new int[] {0, 20}, new int[] {0, 198, 199, 200}, new int[] {1 << 20}), later);
        refused(scene, "empty", NONE, w -> w.empty(20));
    }

    private static void refusedEmptyAt200Barrels() {
        List<Step> later = new ArrayList<>();
        add(later, "pay(199)", w -> w.pay(199));
        Scene scene = new Scene("200 barrels", RefusedTest::at200Barrels,
            questions(new int[] {20, 21, 22}, new int[] {198, 199, 200}, new int[] {7 << 20}), later);
        refused(scene, "empty", NONE, w -> w.empty(21));
        refused(scene, "empty of another wood", NONE, w -> w.empty(22));
    }

    private static Woods lastDay() {
        Woods w = new Woods();
        w.tree(0, 0, 220);
        w.tree(1, 60, 100);
        w.goTo(3648);
        w.cutFaces(0, 2);
        w.goTo(3650);
        w.cut(1, 0);
        return w;
    }

    private static void refusedOnTheLastDay() {
        int[] trees = {0, 1, 2};
        int[] barrels = {0, 1};
        Scene scene = new Scene("the last day", RefusedTest::lastDay, questions(trees, barrels, new int[] {1, 3}),
            later(trees, barrels));
        refused(scene, "weather(3649, 3649)", 0, w -> bit(w.weather(3649, 3649, 9, 9)));
        refused(scene, "weather(3650, 3650)", 0, w -> bit(w.weather(3650, 3650, 9, 9)));
        refused(scene, "go(-1)", NONE, w -> w.go(-1));
        refused(scene, "go(401)", NONE, w -> w.go(401));
        refused(scene, "cut too early", NONE, w -> w.cut(0, 0));
        refused(scene, "cut on the same day", NONE, w -> w.cut(1, 0));
    }
}
