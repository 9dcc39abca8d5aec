import java.util.ArrayList;
import java.util.List;

/** All promises: long mixed runs, each call asked of the class and of a plain model of the document. */
public final class ModelTest {
    private static final Checks CHECKS = new Checks();
    private static final int RUNS = 600;
    private static final int WALK_RUNS = 60;

    public static void main(String[] args) {
        for (int run = 0; run < RUNS; run++) {
            new Run(run).play();
        }
        for (int run = RUNS; run < RUNS + WALK_RUNS; run++) {
            new Run(run).playWalks();
        }
        CHECKS.end();
    }

    /** A run whose calls follow from its number alone. */
    private static final class Run {
        private final int run;
        private final Woods woods = new Woods();
        private final Model model = new Model();
        private final int trees;
        private final int longestGo;
        private final int wildness;
        private long seed;

        Run(int run) {
            this.run = run;
            seed = run * 7919L + 17;
            trees = run % 5 == 0 ? 60 : 1 + next(12);
            longestGo = run % 3 == 0 ? 100 : 8;
            wildness = run % 2 == 0 ? 40 : 12;
        }

        void play() {
            // A walk is asked by two calls.
            for (int call = 0; woods.calls() < Woods.MOST_CALLS - 1; call++) {
                int kind = call < trees ? 0 : 1 + next(40);
                ask(call, kind);
            }
        }

        /** Far trees with cups that are nearly full, so that orders differ by what runs over. */
        void playWalks() {
            for (int tree = 0; tree < 8; tree++) {
                ask(0, 0);
            }
            cutAll(model.trees.size(), 1);
            for (int round = 0; round < 6; round++) {
                int rain = next(4);
                woods.weather(model.now, model.now + 30, 9, rain);
                model.weather(model.now, model.now + 30, 9, rain);
                cutAll(model.trees.size(), 2 + next(3));
                for (int walk = 0; walk < 8; walk++) {
                    askWalk("run " + run + ", round " + round + ", walk " + walk + ": ");
                }
                int tree = next(8);
                CHECKS.due("run " + run + ", empty(" + tree + ")", woods.empty(tree), model.empty(tree));
            }
        }

        /** Some cuts on all trees, five days apart, the last ones with no day behind them. */
        private void cutAll(int many, int times) {
            for (int time = 0; time < times; time++) {
                woods.go(5);
                model.go(5);
                for (int tree = 0; tree < many; tree++) {
                    int face = next(2);
                    CHECKS.due("run " + run + ", cut(" + tree + ", " + face + ")",
                        woods.cut(tree, face), model.cut(tree, face));
                }
            }
        }

        private int next(int bound) {
            seed = seed * 6364136223846793005L + 1442695040888963407L;
            return (int) ((seed >>> 33) % bound);
        }

        /** Mostly low .. high, now and then beyond. */
        private int some(int low, int high) {
            if (next(wildness) == 0) {
                int[] wild = {low - 1, high + 1, Integer.MIN_VALUE, Integer.MAX_VALUE, -1, high + 200};
                return wild[next(wild.length)];
            }
            return low + next(high - low + 1);
        }

        private int someTree() {
            return some(0, Math.max(0, model.trees.size() - 1));
        }

        private int someBarrel() {
            int last = Math.max(0, model.barrels.size() - 1);
            return next(2) == 0 ? last : some(0, last);
        }

        private void ask(int call, int kind) {
            String label = "run " + run + ", call " + call + ": ";
            if (kind <= 13) {
                askTapping(label, kind);
            } else if (kind <= 28) {
                askBarrels(label, kind);
            } else {
                askOthers(label, kind);
            }
        }

        private void askTapping(String label, int kind) {
            if (kind == 0) {
                int a = some(0, 5), b = some(0, 9999), c = some(next(3) == 0 ? 20 : 150, 400);
                CHECKS.due(label + "tree(" + a + ", " + b + ", " + c + ")", woods.tree(a, b, c), model.tree(a, b, c));
            } else if (kind <= 9) {
                int a = someTree(), b = some(0, 2);
                CHECKS.due(label + "cut(" + a + ", " + b + ")", woods.cut(a, b), model.cut(a, b));
            } else if (kind <= 12) {
                int a = some(0, longestGo);
                CHECKS.due(label + "go(" + a + ")", woods.go(a), model.go(a));
            } else {
                int a = model.now + some(0, 20), b = a + some(0, 60), c = some(5, 9), d = some(0, 9);
                CHECKS.due(label + "weather(" + a + ", " + b + ", " + c + ", " + d + ")",
                    woods.weather(a, b, c, d) ? 1 : 0, model.weather(a, b, c, d));
            }
        }

        private void askBarrels(String label, int kind) {
            int b = someBarrel();
            if (kind <= 21) {
                int a = someTree();
                CHECKS.due(label + "empty(" + a + ")", woods.empty(a), model.empty(a));
            } else if (kind <= 24) {
                CHECKS.due(label + "still(" + b + ")", woods.still(b), model.still(b));
            } else if (kind == 25) {
                CHECKS.due(label + "pay(" + b + ")", woods.pay(b), model.pay(b));
            } else if (kind == 26) {
                int a = someTree();
                CHECKS.due(label + "from(" + b + ", " + a + ")", woods.from(b, a), model.from(b, a));
            } else {
                int a = some(0, 9);
                CHECKS.due(label + "barrel(" + b + ", " + a + ")", woods.barrel(b, a), model.barrel(b, a));
            }
        }

        private void askOthers(String label, int kind) {
            int wood = some(0, 5);
            if (kind == 29) {
                int a = some(0, 100);
                CHECKS.due(label + "let(" + wood + ", " + a + ")", woods.let(wood, a) ? 1 : 0, model.let(wood, a));
            } else if (kind == 30) {
                CHECKS.due(label + "due(" + wood + ")", woods.due(wood), model.due(wood));
            } else if (kind == 31) {
                int a = next(6) == 0 ? wood : -1;
                CHECKS.due(label + "burn(" + a + ")", woods.burn(a), model.burn(a));
            } else if (kind == 32) {
                int a = some(20, 400);
                CHECKS.due(label + "bears(" + a + ")", woods.bears(a), model.bears(a));
            } else if (kind == 33) {
                int a = someTree();
                CHECKS.due(label + "rests(" + a + ")", woods.rests(a) ? 1 : 0, model.rests(a) ? 1 : 0);
            } else if (kind <= 35) {
                int a = someTree(), b = some(0, 2), c = some(0, 8);
                CHECKS.due(label + "face(" + a + ", " + b + ", " + c + ")", woods.face(a, b, c), model.face(a, b, c));
            } else if (kind <= 37) {
                int a = some(0, 10);
                CHECKS.due(label + "count(" + a + ")", woods.count(a), model.count(a));
            } else {
                askWalk(label);
            }
        }

        private void askWalk(String label) {
            long bits = 0;
            int many = some(1, 6);
            for (int i = 0; i < Math.min(many, 10); i++) {
                int tree = someTree();
                bits |= tree < 0 || tree > 59 ? 0 : 1L << tree;
            }
            int low = (int) (bits & 0x3fffffff), high = (int) (bits >>> 30), where = some(0, 9999);
            String walk = "(" + low + ", " + high + ", " + where + ", ";
            int k = some(0, Long.bitCount(bits) - 1 < 0 ? 0 : Long.bitCount(bits) - 1), what = some(0, 1);
            int[] best = model.bestWalk(low, high, where);
            int wantTree = best == null || k < 0 || k >= best.length - 2 ? -1 : best[k + 2];
            CHECKS.due(label + "walk" + walk + k + ")", woods.walk(low, high, where, k), wantTree);
            int wantOf = best == null || what < 0 || what > 1 ? -1 : best[what];
            CHECKS.due(label + "walked" + walk + what + ")", woods.walked(low, high, where, what), wantOf);
        }
    }

    private static final class Tree {
        int wood, x, y, girth;
        boolean burnt;
        final List<List<Integer>> streaks = new ArrayList<>();
        final int[][] cups = new int[3][4];
        final int[] ranOver = new int[3];
    }

    private static final class Barrel {
        int wood;
        boolean stilled, paid;
        /** One entry for each unit of resin: tree * 4 + grade. */
        final List<Integer> units = new ArrayList<>();
    }

    /** The document's words, slow and plain: nothing is kept that can be told from what happened. */
    private static final class Model {
        int now = 0;
        final int[] warmth = new int[3650];
        final int[] rain = new int[3650];
        final List<Tree> trees = new ArrayList<>();
        final List<Barrel> barrels = new ArrayList<>();
        final int[] rent = {-1, -1, -1, -1, -1, -1};
        final int[] emptiedSince = new int[6];
        final int[] paidSince = new int[6];
        final int[] sums = new int[11];

        Model() {
            java.util.Arrays.fill(warmth, 5);
        }

        private static boolean within(int low, int value, int high) {
            return low <= value && value <= high;
        }

        private boolean isTree(int tree) {
            return within(0, tree, trees.size() - 1);
        }

        private boolean isBarrel(int b) {
            return within(0, b, barrels.size() - 1);
        }

        int tree(int wood, int where, int girth) {
            if (!within(0, wood, 5) || !within(0, where, 9999) || !within(20, girth, 400) || trees.size() == 60) {
                return -1;
            }
            Tree t = new Tree();
            t.wood = wood;
            t.x = where / 100;
            t.y = where % 100;
            t.girth = girth;
            trees.add(t);
            return trees.size() - 1;
        }

        int bears(int girth) {
            if (!within(20, girth, 400)) {
                return -1;
            }
            return (girth >= 80 ? 1 : 0) + (girth >= 150 ? 1 : 0) + (girth >= 220 ? 1 : 0);
        }

        int weather(int from, int to, int warm, int wet) {
            if (!within(0, warm, 9) || !within(0, wet, 9) || from < now || to < from || to > 3649) {
                return 0;
            }
            for (int d = from; d <= to; d++) {
                warmth[d] = warm;
                rain[d] = wet;
            }
            return 1;
        }

        boolean rests(int tree) {
            if (!isTree(tree)) {
                return false;
            }
            int year = now / 365;
            for (int ahead = year - 4; ahead < year; ahead++) {
                boolean was = false;
                for (List<Integer> face : trees.get(tree).streaks) {
                    for (int day : face) {
                        was |= day / 365 == ahead;
                    }
                }
                if (!was) {
                    return false;
                }
            }
            return true;
        }

        int cut(int tree, int face) {
            if (!isTree(tree) || trees.get(tree).burnt || rests(tree)) {
                return -1;
            }
            Tree t = trees.get(tree);
            if (!within(0, face, Math.min(t.streaks.size(), bears(t.girth) - 1))) {
                return -1;
            }
            if (face == t.streaks.size()) {
                t.streaks.add(new ArrayList<>());
            }
            List<Integer> streaks = t.streaks.get(face);
            int many = streaks.size();
            if (many == 40 || many > 0 && now < streaks.get(many - 1) + 5) {
                return -1;
            }
            streaks.add(now);
            return many + 1;
        }

        /** What runs on a day. */
        private int flow(Tree t, int face, int day) {
            List<Integer> streaks = t.streaks.get(face);
            int since = day - streaks.get(streaks.size() - 1);
            int strength = since < 5 ? 6 - since : since < 10 ? 1 : 0;
            return t.burnt ? 0 : warmth[day] * strength;
        }

        /** What runs over when so much comes to a cup. */
        private static int pour(int[] cup, int flow, int grade) {
            int over = 0;
            for (int unit = 0; unit < flow; unit++) {
                if (cup[0] + cup[1] + cup[2] + cup[3] < 400) {
                    cup[grade]++;
                } else {
                    over++;
                }
            }
            return over;
        }

        private int grade(Tree t, int face, int day) {
            return Math.min(3, day / 365 - t.streaks.get(face).get(0) / 365);
        }

        int go(int n) {
            if (!within(0, n, 400)) {
                return -1;
            }
            for (int i = 0; i < n && now < 3650; i++) {
                for (Tree t : trees) {
                    for (int f = 0; f < t.streaks.size(); f++) {
                        int flow = flow(t, f, now);
                        int over = pour(t.cups[f], flow, grade(t, f, now));
                        sums[3] += flow;
                        sums[4] += over;
                        t.ranOver[f] += over;
                    }
                }
                for (Tree t : trees) {
                    for (int[] cup : t.cups) {
                        for (int g = 0; g < 4; g++) {
                            int left = cup[g] - cup[g] * rain[now] / 100;
                            sums[5] += cup[g] - left;
                            cup[g] = left;
                        }
                    }
                }
                now++;
            }
            return now;
        }

        private static int sum(int[] cup) {
            return cup[0] + cup[1] + cup[2] + cup[3];
        }

        private static int sum(Tree t) {
            return sum(t.cups[0]) + sum(t.cups[1]) + sum(t.cups[2]);
        }

        int face(int tree, int face, int what) {
            if (!isTree(tree) || !within(0, face, trees.get(tree).streaks.size() - 1) || !within(0, what, 8)) {
                return -1;
            }
            Tree t = trees.get(tree);
            List<Integer> streaks = t.streaks.get(face);
            int[] cup = t.cups[face];
            int[] all = {streaks.size(), streaks.get(streaks.size() - 1), streaks.get(0) / 365, sum(cup),
                cup[0], cup[1], cup[2], cup[3], t.ranOver[face]};
            return all[what];
        }

        private boolean isFull(Barrel b) {
            return b.units.size() == 1000 || b.stilled || b.paid;
        }

        private Barrel open(List<Barrel> some, int wood) {
            for (Barrel b : some) {
                if (b.wood == wood && !isFull(b)) {
                    return b;
                }
            }
            Barrel b = new Barrel();
            b.wood = wood;
            some.add(b);
            return b;
        }

        int empty(int tree) {
            if (!isTree(tree)) {
                return -1;
            }
            Tree t = trees.get(tree);
            int room = (200 - barrels.size()) * 1000;
            for (Barrel b : barrels) {
                room += b.wood == t.wood && !isFull(b) ? 1000 - b.units.size() : 0;
            }
            int all = sum(t);
            if (all > room) {
                return -1;
            }
            for (int[] cup : t.cups) {
                for (int g = 0; g < 4; g++) {
                    for (; cup[g] > 0; cup[g]--) {
                        open(barrels, t.wood).units.add(tree * 4 + g);
                    }
                }
            }
            emptiedSince[t.wood] += all;
            sums[8] += all;
            return all;
        }

        private static int unitsOfGrade(Barrel b, int grade) {
            int many = 0;
            for (int unit : b.units) {
                many += unit % 4 == grade ? 1 : 0;
            }
            return many;
        }

        private static int gradeOf(Barrel b) {
            int sum = 0;
            for (int unit : b.units) {
                sum += unit % 4;
            }
            return sum / b.units.size();
        }

        int barrel(int b, int what) {
            if (!isBarrel(b) || !within(0, what, 9)) {
                return -1;
            }
            Barrel one = barrels.get(b);
            int[] all = {one.units.size(), unitsOfGrade(one, 0), unitsOfGrade(one, 1), unitsOfGrade(one, 2),
                unitsOfGrade(one, 3), gradeOf(one), one.wood, isFull(one) ? 1 : 0, one.stilled ? 1 : 0,
                one.paid ? 1 : 0};
            return all[what];
        }

        int from(int b, int tree) {
            if (!isBarrel(b) || !isTree(tree)) {
                return -1;
            }
            int many = 0;
            for (int unit : barrels.get(b).units) {
                many += unit / 4 == tree ? 1 : 0;
            }
            return many;
        }

        int still(int b) {
            if (!isBarrel(b) || barrels.get(b).stilled || barrels.get(b).paid) {
                return -1;
            }
            Barrel one = barrels.get(b);
            one.stilled = true;
            int spirit = one.units.size() / 5;
            int rosin = one.units.size() * (70 - 5 * gradeOf(one)) / 100;
            sums[9] += spirit;
            sums[10] += rosin;
            return spirit * 10000 + rosin;
        }

        int let(int wood, int newRent) {
            if (!within(0, wood, 5) || !within(0, newRent, 100)) {
                return 0;
            }
            rent[wood] = newRent;
            emptiedSince[wood] = 0;
            paidSince[wood] = 0;
            return 1;
        }

        int due(int wood) {
            if (!within(0, wood, 5) || rent[wood] == -1) {
                return 0;
            }
            return emptiedSince[wood] * rent[wood] / 100 - paidSince[wood];
        }

        int pay(int b) {
            if (!isBarrel(b) || barrels.get(b).stilled || barrels.get(b).paid || rent[barrels.get(b).wood] == -1) {
                return Integer.MIN_VALUE;
            }
            Barrel one = barrels.get(b);
            one.paid = true;
            paidSince[one.wood] += one.units.size();
            return due(one.wood);
        }

        int burn(int wood) {
            if (!within(0, wood, 5)) {
                return -1;
            }
            rent[wood] = -1;
            int many = 0;
            for (Tree t : trees) {
                if (t.wood == wood && !t.burnt) {
                    many++;
                    t.burnt = true;
                    sums[6] += sum(t);
                    for (int[] cup : t.cups) {
                        java.util.Arrays.fill(cup, 0);
                    }
                }
            }
            return many;
        }

        int count(int what) {
            if (!within(0, what, 10)) {
                return -1;
            }
            sums[0] = now;
            sums[1] = trees.size();
            sums[2] = barrels.size();
            sums[7] = 0;
            for (Tree t : trees) {
                sums[7] += sum(t);
            }
            return sums[what];
        }

        /** What runs over, the steps, and the trees of the best order; null if there is no such walk. */
        int[] bestWalk(int low, int high, int where) {
            List<Integer> wanted = new ArrayList<>();
            for (int tree = 0; tree < 60; tree++) {
                if (((tree < 30 ? low >> tree : high >> (tree - 30)) & 1) == 1) {
                    wanted.add(tree);
                }
            }
            if (wanted.isEmpty() || wanted.size() > 6 || !within(0, where, 9999)
                || wanted.get(wanted.size() - 1) >= trees.size()) {
                return null;
            }
            List<int[]> all = new ArrayList<>();
            orders(wanted, new ArrayList<>(), where, all);
            int[] best = all.get(0);
            for (int[] one : all) {
                if (one[0] < best[0] || one[0] == best[0] && one[1] < best[1]) {
                    best = one;
                }
            }
            return best;
        }

        private void orders(List<Integer> left, List<Integer> begin, int where, List<int[]> all) {
            if (left.isEmpty()) {
                all.add(weigh(begin, where));
            }
            for (int i = 0; i < left.size(); i++) {
                List<Integer> others = new ArrayList<>(left);
                List<Integer> longer = new ArrayList<>(begin);
                longer.add(others.remove(i));
                orders(others, longer, where, all);
            }
        }

        private int[] weigh(List<Integer> order, int where) {
            int[] result = new int[order.size() + 2];
            int x = where / 100, y = where % 100;
            for (int i = 0; i < order.size(); i++) {
                Tree t = trees.get(order.get(i));
                result[1] += Math.max(x, t.x) - Math.min(x, t.x) + Math.max(y, t.y) - Math.min(y, t.y);
                result[0] += foreseen(t, Math.min(3650, now + result[1] / 60));
                result[i + 2] = order.get(i);
                x = t.x;
                y = t.y;
            }
            return result;
        }

        private int foreseen(Tree t, int day) {
            int over = 0;
            for (int f = 0; f < t.streaks.size(); f++) {
                int[] cup = t.cups[f].clone();
                for (int d = now; d < day; d++) {
                    over += pour(cup, flow(t, f, d), grade(t, f, d));
                    for (int g = 0; g < 4; g++) {
                        cup[g] -= cup[g] * rain[d] / 100;
                    }
                }
            }
            return over;
        }
    }
}
