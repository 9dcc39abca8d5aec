import java.util.ArrayList;
import java.util.List;

/** Woods let to resin tappers; ../shared/DOC.md tells the promises that the methods bear by number. */
public final class ResinWoods {
    public static final int NONE = -1;

    private static final int LAST_DAY = 3650;
    private static final int DAYS_OF_YEAR = 365;
    private static final int MOST_DAYS_AT_ONCE = 400;
    private static final int FIRST_WARMTH = 5;
    private static final int MOST_WEATHER = 9;

    private static final int WOODS = 6;
    private static final int MOST_TREES = 60;
    private static final int TREES_OF_LOW = 30;
    private static final int SIDE = 100;
    private static final int LEAST_GIRTH = 20;
    private static final int MOST_GIRTH = 400;

    private static final int DAYS_BETWEEN_STREAKS = 5;
    private static final int MOST_STREAKS = 40;
    private static final int YEARS_TO_REST = 4;
    private static final int[] STRENGTH = {6, 5, 4, 3, 2, 1, 1, 1, 1, 1};

    private static final int GRADES = 4;
    private static final int CUP_HOLDS = 400;
    private static final int BARREL_HOLDS = 1000;
    private static final int MOST_BARRELS = 200;
    private static final int[] ROSIN_PARTS = {70, 65, 60, 55};
    private static final int SPIRIT_BASE = 10000;
    private static final int MOST_RENT = 100;
    private static final int NOT_PAID = -2147483648;

    private static final int MOST_WALKED = 6;
    private static final int STEPS_OF_DAY = 60;
    /** No leg has more steps than there are from one corner to the other. */
    private static final int MOST_DAYS_WALKED = MOST_WALKED * 2 * (SIDE - 1) / STEPS_OF_DAY;

    private final byte[] warmths = new byte[LAST_DAY];
    private final byte[] rains = new byte[LAST_DAY];
    private final Wood[] woods = new Wood[WOODS];
    private final List<Tree> trees = new ArrayList<>();
    private final List<Barrel> barrels = new ArrayList<>();
    private final Tally tally = new Tally();
    private final Planner planner = new Planner();
    private int now = 0;
    private int emptied = 0;
    private int burnt = 0;
    private int spirit = 0;
    private int rosin = 0;

    /** Promise 1. */
    public ResinWoods() {
        for (int day = 0; day < LAST_DAY; day++) {
            warmths[day] = FIRST_WARMTH;
        }
        for (int number = 0; number < WOODS; number++) {
            woods[number] = new Wood(number);
        }
    }

    /** Promise 2. */
    public int tree(int wood, int where, int girth) {
        Wood its = woodAt(wood);
        if (its == null || !isPlace(where) || !isGirth(girth) || trees.size() >= MOST_TREES) {
            return NONE;
        }
        trees.add(new Tree(trees.size(), its, where, facesBorneBy(girth)));
        return trees.size() - 1;
    }

    /** Promise 3. */
    public int bears(int girth) {
        return isGirth(girth) ? facesBorneBy(girth) : NONE;
    }

    /** Promise 4. */
    public boolean weather(int from, int to, int warmth, int rain) {
        if (!isWeather(warmth) || !isWeather(rain)) {
            return false;
        }
        if (from < now || to < from || to >= LAST_DAY) {
            return false;
        }
        for (int day = from; day <= to; day++) {
            warmths[day] = (byte) warmth;
            rains[day] = (byte) rain;
        }
        return true;
    }

    /** Promise 5. */
    public int cut(int tree, int face) {
        Tree its = treeAt(tree);
        if (its == null || its.isBurnt || its.restsIn(yearOf(now))) {
            return NONE;
        }
        Face old = its.faceAt(face);
        if (old != null) {
            return old.mayBeCutOn(now) ? its.streakOn(old, now) : NONE;
        }
        return its.mayOpen(face) ? its.streakOn(its.openFace(now), now) : NONE;
    }

    /** Promise 6. */
    public boolean rests(int tree) {
        Tree its = treeAt(tree);
        return its != null && its.restsIn(yearOf(now));
    }

    /** Promise 7. */
    public int go(int n) {
        if (n < 0 || n > MOST_DAYS_AT_ONCE) {
            return NONE;
        }
        int last = Math.min(now + n, LAST_DAY);
        while (now < last) {
            endDay();
            now++;
        }
        return now;
    }

    /** Promise 8. */
    public int face(int tree, int face, int what) {
        Tree its = treeAt(tree);
        Face one = its == null ? null : its.faceAt(face);
        return one == null ? NONE : one.tell(what);
    }

    /** Promise 9. */
    public int empty(int tree) {
        Tree its = treeAt(tree);
        if (its == null) {
            return NONE;
        }
        int all = its.inCups();
        if (barrels.size() + newBarrelsFor(its.wood, all) > MOST_BARRELS) {
            return NONE;
        }
        for (int i = 0; i < its.faces.size(); i++) {
            pourCup(its, its.faces.get(i));
        }
        its.wood.emptied += all;
        emptied += all;
        return all;
    }

    /** Promise 10. */
    public int barrel(int b, int what) {
        Barrel one = barrelAt(b);
        return one == null ? NONE : one.tell(what);
    }

    /** Promise 11. */
    public int from(int b, int tree) {
        Barrel one = barrelAt(b);
        Tree its = treeAt(tree);
        return one == null || its == null ? NONE : one.ofTree[its.number];
    }

    /** Promise 12. */
    public int still(int b) {
        Barrel one = barrelAt(b);
        if (one == null || one.isGone()) {
            return NONE;
        }
        one.isStilled = true;
        spirit += one.spiritOf();
        rosin += one.rosinOf();
        return one.spiritOf() * SPIRIT_BASE + one.rosinOf();
    }

    /** Promise 13. */
    public boolean let(int wood, int rent) {
        Wood its = woodAt(wood);
        if (its == null || rent < 0 || rent > MOST_RENT) {
            return false;
        }
        its.letFor(rent);
        return true;
    }

    /** Promise 14. */
    public int due(int wood) {
        Wood its = woodAt(wood);
        return its == null ? 0 : its.stillDue();
    }

    /** Promise 15. */
    public int pay(int b) {
        Barrel one = barrelAt(b);
        if (one == null || one.isGone() || !one.wood.isLet) {
            return NOT_PAID;
        }
        one.isPaid = true;
        one.wood.paid += one.has;
        return one.wood.stillDue();
    }

    /** Promise 16. */
    public int burn(int wood) {
        Wood its = woodAt(wood);
        if (its == null) {
            return NONE;
        }
        its.isLet = false;
        int burning = 0;
        for (int i = 0; i < trees.size(); i++) {
            Tree one = trees.get(i);
            if (one.wood.number == wood && !one.isBurnt) {
                burnt += one.takeFire();
                burning++;
            }
        }
        return burning;
    }

    /** Promise 17. */
    public int walk(int low, int high, int where, int k) {
        if (!planWalk(low, high, where) || k < 0 || k >= planner.size) {
            return NONE;
        }
        return planner.numbers[planner.best[k]];
    }

    /** Promise 18. */
    public int walked(int low, int high, int where, int what) {
        if (what < 0 || what > 1 || !planWalk(low, high, where)) {
            return NONE;
        }
        return what == 0 ? planner.bestOver : planner.bestSteps;
    }

    /** Promise 19. */
    public int count(int what) {
        switch (what) {
            case 0: return now;
            case 1: return trees.size();
            case 2: return barrels.size();
            case 3: return tally.ran;
            case 4: return tally.ranOver;
            case 5: return tally.washed;
            case 6: return burnt;
            case 7: return inAllCups();
            case 8: return emptied;
            case 9: return spirit;
            case 10: return rosin;
            default: return NONE;
        }
    }

    private static boolean isPlace(int where) {
        return where >= 0 && where < SIDE * SIDE;
    }

    private static boolean isGirth(int girth) {
        return girth >= LEAST_GIRTH && girth <= MOST_GIRTH;
    }

    private static boolean isWeather(int level) {
        return level >= 0 && level <= MOST_WEATHER;
    }

    private static int facesBorneBy(int girth) {
        if (girth < 80) {
            return 0;
        }
        if (girth < 150) {
            return 1;
        }
        return girth < 220 ? 2 : 3;
    }

    private static int yearOf(int day) {
        return day / DAYS_OF_YEAR;
    }

    private Wood woodAt(int number) {
        return number < 0 || number >= WOODS ? null : woods[number];
    }

    private Tree treeAt(int number) {
        return number < 0 || number >= trees.size() ? null : trees.get(number);
    }

    private Barrel barrelAt(int number) {
        return number < 0 || number >= barrels.size() ? null : barrels.get(number);
    }

    /** No cup touches another, so running and rain may be done cup by cup. */
    private void endDay() {
        for (int i = 0; i < trees.size(); i++) {
            Tree one = trees.get(i);
            if (!one.isBurnt) {
                for (int f = 0; f < one.faces.size(); f++) {
                    one.faces.get(f).endDay(now, warmths[now], rains[now], tally);
                }
            }
        }
    }

    private int inAllCups() {
        int all = 0;
        for (int i = 0; i < trees.size(); i++) {
            all += trees.get(i).inCups();
        }
        return all;
    }

    private static int newBarrelsFor(Wood wood, int amount) {
        Barrel open = wood.openBarrel();
        int more = open == null ? amount : amount - open.room();
        return more <= 0 ? 0 : (more + BARREL_HOLDS - 1) / BARREL_HOLDS;
    }

    private void pourCup(Tree tree, Face face) {
        for (int grade = 0; grade < GRADES; grade++) {
            pour(tree, grade, face.ofGrade[grade]);
        }
        face.clearCup();
    }

    private void pour(Tree tree, int grade, int amount) {
        int left = amount;
        for (int filled = 0; left > 0 && filled <= MOST_BARRELS; filled++) {
            Barrel open = tree.wood.openBarrel();
            if (open == null) {
                open = new Barrel(tree.wood);
                barrels.add(open);
                tree.wood.latest = open;
            }
            left -= open.fill(tree.number, grade, left);
        }
    }

    /** Whether there is such a walk; if so, the planner has its best order. */
    private boolean planWalk(int low, int high, int where) {
        int wanted = Integer.bitCount(low) + Integer.bitCount(high);
        if (wanted < 1 || wanted > MOST_WALKED || !isPlace(where)) {
            return false;
        }
        if (low >>> TREES_OF_LOW != 0 || high >>> TREES_OF_LOW != 0) {
            return false;
        }
        planner.begin();
        for (int number = 0; number < MOST_TREES; number++) {
            int bits = number < TREES_OF_LOW ? low >>> number : high >>> (number - TREES_OF_LOW);
            if ((bits & 1) != 0) {
                Tree one = treeAt(number);
                if (one == null) {
                    return false;
                }
                foreseeTree(one, planner.join(one));
            }
        }
        Planner.visit(planner, 0, where, 0, 0);
        return true;
    }

    private void foreseeTree(Tree tree, int slot) {
        if (tree.isBurnt) {
            return;
        }
        for (int f = 0; f < tree.faces.size(); f++) {
            planner.cup.standInFor(tree.faces.get(f));
            for (int ended = 1; ended <= MOST_DAYS_WALKED; ended++) {
                int day = now + ended - 1;
                if (day < LAST_DAY) {
                    planner.cup.endDay(day, warmths[day], rains[day], planner.unread);
                }
                planner.spills[slot][ended] += planner.cup.ranOver;
            }
        }
    }

    /** What the ends of days add up to. */
    private static final class Tally {
        int ran = 0;
        int ranOver = 0;
        int washed = 0;
    }

    private static final class Wood {
        final int number;
        boolean isLet = false;
        int rent = 0;
        int emptied = 0;
        int paid = 0;
        /** The newest barrel: all older ones of the wood are full. */
        Barrel latest = null;

        Wood(int number) {
            this.number = number;
        }

        void letFor(int newRent) {
            isLet = true;
            rent = newRent;
            emptied = 0;
            paid = 0;
        }

        int stillDue() {
            return isLet ? emptied * rent / 100 - paid : 0;
        }

        Barrel openBarrel() {
            return latest == null || latest.isFull() ? null : latest;
        }
    }

    private static final class Tree {
        final int number;
        final Wood wood;
        final int where;
        final int borne;
        final List<Face> faces = new ArrayList<>();
        boolean isBurnt = false;
        /** Bit y is set if a streak was cut in year y. */
        int yearsCut = 0;

        Tree(int number, Wood wood, int where, int borne) {
            this.number = number;
            this.wood = wood;
            this.where = where;
            this.borne = borne;
        }

        Face faceAt(int index) {
            return index < 0 || index >= faces.size() ? null : faces.get(index);
        }

        boolean mayOpen(int index) {
            return index == faces.size() && index < borne;
        }

        Face openFace(int day) {
            Face opened = new Face();
            opened.openedIn = yearOf(day);
            faces.add(opened);
            return opened;
        }

        int streakOn(Face face, int day) {
            face.streaks++;
            face.latest = day;
            yearsCut |= 1 << yearOf(day);
            return face.streaks;
        }

        boolean restsIn(int year) {
            int all = (1 << YEARS_TO_REST) - 1;
            return year >= YEARS_TO_REST && ((yearsCut >> (year - YEARS_TO_REST)) & all) == all;
        }

        int inCups() {
            int all = 0;
            for (int f = 0; f < faces.size(); f++) {
                all += faces.get(f).has;
            }
            return all;
        }

        /** How much burns in the cups. */
        int takeFire() {
            int lost = inCups();
            isBurnt = true;
            for (int f = 0; f < faces.size(); f++) {
                faces.get(f).clearCup();
            }
            return lost;
        }
    }

    /** A face with its cup. */
    private static final class Face {
        int streaks = 0;
        int latest = 0;
        int openedIn = 0;
        int has = 0;
        int ranOver = 0;
        final int[] ofGrade = new int[GRADES];

        int tell(int what) {
            switch (what) {
                case 0: return streaks;
                case 1: return latest;
                case 2: return openedIn;
                case 3: return has;
                case 4: case 5: case 6: case 7: return ofGrade[what - 4];
                case 8: return ranOver;
                default: return NONE;
            }
        }

        boolean mayBeCutOn(int day) {
            return streaks < MOST_STREAKS && day - latest >= DAYS_BETWEEN_STREAKS;
        }

        void endDay(int day, int warmth, int rain, Tally tally) {
            int flow = warmth * strengthOn(day);
            if (flow > 0) {
                tally.ran += flow;
                tally.ranOver += catchInCup(flow, gradeOn(day));
            }
            if (rain > 0 && has > 0) {
                tally.washed += washBy(rain);
            }
        }

        int strengthOn(int day) {
            int since = day - latest;
            return since < 0 || since >= STRENGTH.length ? 0 : STRENGTH[since];
        }

        int gradeOn(int day) {
            return Math.max(0, Math.min(yearOf(day) - openedIn, GRADES - 1));
        }

        /** How much runs over. */
        int catchInCup(int flow, int grade) {
            int kept = Math.min(flow, CUP_HOLDS - has);
            ofGrade[grade] += kept;
            has += kept;
            ranOver += flow - kept;
            return flow - kept;
        }

        /** How much is washed away. */
        int washBy(int rain) {
            int washed = 0;
            for (int grade = 0; grade < GRADES; grade++) {
                int part = ofGrade[grade] * rain / 100;
                ofGrade[grade] -= part;
                washed += part;
            }
            has -= washed;
            return washed;
        }

        void clearCup() {
            has = 0;
            for (int grade = 0; grade < GRADES; grade++) {
                ofGrade[grade] = 0;
            }
        }

        /** Takes over what the ends of days depend on; what ran over counts from here on. */
        void standInFor(Face other) {
            latest = other.latest;
            openedIn = other.openedIn;
            has = other.has;
            ranOver = 0;
            for (int grade = 0; grade < GRADES; grade++) {
                ofGrade[grade] = other.ofGrade[grade];
            }
        }
    }

    private static final class Barrel {
        final Wood wood;
        int has = 0;
        final int[] ofGrade = new int[GRADES];
        final int[] ofTree = new int[MOST_TREES];
        boolean isStilled = false;
        boolean isPaid = false;

        Barrel(Wood wood) {
            this.wood = wood;
        }

        int tell(int what) {
            switch (what) {
                case 0: return has;
                case 1: case 2: case 3: case 4: return ofGrade[what - 1];
                case 5: return gradeOf();
                case 6: return wood.number;
                case 7: return isFull() ? 1 : 0;
                case 8: return isStilled ? 1 : 0;
                case 9: return isPaid ? 1 : 0;
                default: return NONE;
            }
        }

        boolean isGone() {
            return isStilled || isPaid;
        }

        boolean isFull() {
            return isGone() || has >= BARREL_HOLDS;
        }

        int room() {
            return BARREL_HOLDS - has;
        }

        /** How much of the amount found room. */
        int fill(int tree, int grade, int amount) {
            int part = Math.min(amount, room());
            has += part;
            ofGrade[grade] += part;
            ofTree[tree] += part;
            return part;
        }

        int gradeOf() {
            int sum = 0;
            for (int grade = 0; grade < GRADES; grade++) {
                sum += grade * ofGrade[grade];
            }
            return has <= 0 ? 0 : sum / has;
        }

        int spiritOf() {
            return has / 5;
        }

        int rosinOf() {
            return has * ROSIN_PARTS[Math.min(gradeOf(), GRADES - 1)] / 100;
        }
    }

    /** Seeks the best order of a walk; made once, so that walks make no objects. */
    private static final class Planner {
        int size = 0;
        final int[] numbers = new int[MOST_WALKED];
        final int[] places = new int[MOST_WALKED];
        /** What runs over at a tree until so many days have ended. */
        final int[][] spills = new int[MOST_WALKED][MOST_DAYS_WALKED + 1];
        final int[] order = new int[MOST_WALKED];
        final int[] best = new int[MOST_WALKED];
        final boolean[] isVisited = new boolean[MOST_WALKED];
        /** Runs ahead in a face's stead, so that nothing foreseen changes the face. */
        final Face cup = new Face();
        /** What is only foreseen is no part of the tally. */
        final Tally unread = new Tally();
        boolean hasBest = false;
        int bestOver = 0;
        int bestSteps = 0;

        void begin() {
            size = 0;
            hasBest = false;
        }

        /** The slot of the tree; trees join by rising numbers. */
        int join(Tree tree) {
            int slot = Math.min(size, MOST_WALKED - 1);
            numbers[slot] = tree.number;
            places[slot] = tree.where;
            for (int ended = 0; ended <= MOST_DAYS_WALKED; ended++) {
                spills[slot][ended] = 0;
            }
            size = slot + 1;
            return slot;
        }

        /**
         * Orders are tried by rising numbers, so of like ones the first is kept. Neither what runs over nor the
         * steps can become less on the way, so a begin that doesn't beat the best order needs no end.
         */
        private static void visit(Planner plan, int depth, int place, int steps, int over) {
            if (plan.hasBest && !plan.beatsBest(over, steps)) {
                return;
            }
            if (depth >= plan.size) {
                plan.keepBest(over, steps);
                return;
            }
            for (int slot = 0; slot < plan.size; slot++) {
                if (!plan.isVisited[slot]) {
                    int there = steps + stepsBetween(place, plan.places[slot]);
                    plan.isVisited[slot] = true;
                    plan.order[depth] = slot;
                    visit(plan, depth + 1, plan.places[slot], there, over + plan.spilledBy(slot, there));
                    plan.isVisited[slot] = false;
                }
            }
        }

        private static int stepsBetween(int a, int b) {
            return Math.abs(a / SIDE - b / SIDE) + Math.abs(a % SIDE - b % SIDE);
        }

        private int spilledBy(int slot, int steps) {
            return spills[slot][Math.min(steps / STEPS_OF_DAY, MOST_DAYS_WALKED)];
        }

        private boolean beatsBest(int over, int steps) {
            return over < bestOver || over == bestOver && steps < bestSteps;
        }

        private void keepBest(int over, int steps) {
            hasBest = true;
            bestOver = over;
            bestSteps = steps;
            for (int i = 0; i < size; i++) {
                best[i] = order[i];
            }
        }
    }
}
