/** A ResinWoods that counts its calls: what it answers behind the 512th is free, so no test may lean on it. */
final class Woods {
    static final int MOST_CALLS = 512;
    private static final int[] STRENGTH = {6, 5, 4, 3, 2, 1, 1, 1, 1, 1};
    private static final int MOST_OF_A_STREAK = 225;

    private final ResinWoods woods = new ResinWoods();
    private int calls = 0;
    private int now = 0;

    private ResinWoods called() {
        calls++;
        if (calls > MOST_CALLS) {
            throw new IllegalStateException("a test made more than " + MOST_CALLS + " calls of one object");
        }
        return woods;
    }

    int calls() {
        return calls;
    }

    int now() {
        return now;
    }

    int tree(int wood, int where, int girth) {
        return called().tree(wood, where, girth);
    }

    int bears(int girth) {
        return called().bears(girth);
    }

    boolean weather(int from, int to, int warmth, int rain) {
        return called().weather(from, to, warmth, rain);
    }

    int cut(int tree, int face) {
        return called().cut(tree, face);
    }

    boolean rests(int tree) {
        return called().rests(tree);
    }

    int go(int n) {
        int day = called().go(n);
        now = day == ResinWoods.NONE ? now : day;
        return day;
    }

    int face(int tree, int face, int what) {
        return called().face(tree, face, what);
    }

    int empty(int tree) {
        return called().empty(tree);
    }

    int barrel(int b, int what) {
        return called().barrel(b, what);
    }

    int from(int b, int tree) {
        return called().from(b, tree);
    }

    int still(int b) {
        return called().still(b);
    }

    boolean let(int wood, int rent) {
        return called().let(wood, rent);
    }

    int due(int wood) {
        return called().due(wood);
    }

    int pay(int b) {
        return called().pay(b);
    }

    int burn(int wood) {
        return called().burn(wood);
    }

    int walk(int low, int high, int where, int k) {
        return called().walk(low, high, where, k);
    }

    int walked(int low, int high, int where, int what) {
        return called().walked(low, high, where, what);
    }

    int count(int what) {
        return called().count(what);
    }

    /** Days end until it is that day; the bound on calls ends the loop if they don't. */
    void goTo(int day) {
        while (now < day) {
            go(Math.min(400, day - now));
        }
    }

    /** No warmth and no rain from now on, so that nothing runs but what a test lets run. */
    void calm() {
        weather(now, 3649, 0, 0);
    }

    /** Cuts those of the first faces that can be cut. */
    void cutFaces(int tree, int faces) {
        for (int face = 0; face < faces; face++) {
            cut(tree, face);
        }
    }

    /** In calm weather: streaks are cut, ten days apart, and exactly so much comes to the cup, if it has room. */
    void fill(int tree, int face, int amount) {
        for (int left = amount; left > 0; left -= MOST_OF_A_STREAK) {
            runFor(Math.min(left, MOST_OF_A_STREAK));
            cut(tree, face);
            go(STRENGTH.length);
        }
    }

    /** On the tenth day: so many barrels (200 at most) of wood 5's trees 0 to 19, all stilled, in some 450 calls. */
    static Woods withStilledBarrels(int many) {
        Woods w = new Woods();
        for (int tree = 0; tree < 20; tree++) {
            w.tree(5, 0, 80);
            w.cut(tree, 0);
        }
        int barrels = 0;
        for (int day = 0; day < STRENGTH.length; day++) {
            w.go(1);
            for (int tree = 0; tree < 20 && barrels < many; tree++) {
                w.empty(tree);
                w.still(barrels);
                barrels++;
            }
        }
        w.calm();
        return w;
    }

    /** In calm weather: a tree of three faces comes to that wood, its cups have 800 and so much (199 to 201) more. */
    int treeWith800And(int more, int wood) {
        int tree = tree(wood, 0, 220);
        weather(now, now + 18, 8, 0);
        weather(now + 19, now + 19, more - 24 * 8, 0);
        cutFaces(tree, 2);
        weather(now + 9, now + 9, 9, 0);
        go(STRENGTH.length);
        cutFaces(tree, 3);
        go(STRENGTH.length);
        return tree;
    }

    private void runFor(int amount) {
        int left = amount;
        int first = 0;
        int warmth = 0;
        for (int day = 0; day < STRENGTH.length; day++) {
            int wanted = Math.min(9, left / STRENGTH[day]);
            left -= wanted * STRENGTH[day];
            if (wanted != warmth) {
                warm(first, day, warmth);
                first = day;
                warmth = wanted;
            }
        }
        warm(first, STRENGTH.length, warmth);
    }

    private void warm(int first, int end, int warmth) {
        if (warmth > 0) {
            weather(now + first, now + end - 1, warmth, 0);
        }
    }
}
