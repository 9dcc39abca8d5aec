/** "Terms", the first part: DAYS, weather, WOODS, TREES, FACES, STREAKS and rests, sentence by sentence. */
public final class TermsTreesTest {
    private static final Checks CHECKS = new Checks();

    public static void main(String[] args) {
        daysGoTo3650();
        nowIs0AtFirst();
        yearsAre365Days();
        warmthIs0To9();
        rainIs0To9();
        woodsAre0To5();
        treesAreAtMost60();
        placesAre0To99();
        girthsAre20To400();
        girthsBearFaces();
        facesHaveNumbersAsOpened();
        firstStreakOpensAFace();
        streaksAreFiveDaysApart();
        fiveDaysGoOnOverTheNewYear();
        facesHaveAtMost40Streaks();
        restLastsForTheFifthYear();
        restNeedsEachOfFourYears();
        restCountsTheEdgesOfYears();
        restNeedsFourYearsNotFourStreaks();
        restComesInTheLastYears();
        CHECKS.end();
    }

    private static Woods withTree(int girth) {
        Woods w = new Woods();
        w.tree(0, 0, girth);
        return w;
    }

    private static void daysGoTo3650() {
        CHECKS.sentence("DAYS are 0 .. 3650");
        Woods w = withTree(400);
        w.cut(0, 0);
        CHECKS.due("a streak of the first day", w.face(0, 0, 1), 0);
        w.goTo(3649);
        w.cut(0, 1);
        CHECKS.due("a streak of the last day but one", w.face(0, 1, 1), 3649);
        CHECKS.due("the last day", w.go(1), 3650);
        w.cut(0, 2);
        CHECKS.due("a streak of the last day", w.face(0, 2, 1), 3650);
        CHECKS.due("none behind it", w.go(1), 3650);
        CHECKS.due("now", w.count(0), 3650);
    }

    private static void nowIs0AtFirst() {
        CHECKS.sentence("NOW is one (0 at first)");
        Woods w = withTree(400);
        CHECKS.due("now", w.count(0), 0);
        w.cut(0, 0);
        CHECKS.due("a streak's day", w.face(0, 0, 1), 0);
    }

    private static void yearsAre365Days() {
        CHECKS.sentence("YEAR is the DAY by 365 (cut)");
        int[] days = {0, 364, 365, 729, 730, 3284, 3285, 3649, 3650};
        int[] years = {0, 0, 1, 1, 2, 8, 9, 9, 10};
        Woods w = new Woods();
        for (int i = 0; i < days.length; i++) {
            w.tree(0, 0, 100);
            w.goTo(days[i]);
            w.cut(i, 0);
            CHECKS.due("year of day " + days[i], w.face(i, 0, 2), years[i]);
        }
    }

    private static void warmthIs0To9() {
        CHECKS.sentence("Each DAY has WARMTH (0 .. 9; 5 at first)");
        Woods w = withTree(100);
        w.cut(0, 0);
        CHECKS.fails("-1", w.weather(0, 0, -1, 0));
        w.go(1);
        CHECKS.due("5 at first, on the first day", w.face(0, 0, 3), 5 * 6);
        CHECKS.holds("0", w.weather(1, 1, 0, 0));
        w.go(1);
        CHECKS.due("nothing runs by 0", w.face(0, 0, 3), 30);
        CHECKS.holds("9", w.weather(2, 2, 9, 0));
        w.go(1);
        CHECKS.due("by 9", w.face(0, 0, 3), 30 + 9 * 4);
        CHECKS.fails("10", w.weather(3, 3, 10, 0));
        w.go(1);
        CHECKS.due("5 yet", w.face(0, 0, 3), 66 + 5 * 3);
        w.goTo(3649);
        w.empty(0);
        w.cut(0, 0);
        w.go(1);
        CHECKS.due("5 at first, on the last day that ends", w.face(0, 0, 3), 5 * 6);
    }

    private static void rainIs0To9() {
        CHECKS.sentence("and RAIN (0 .. 9; 0 at first)");
        Woods w = withTree(100);
        w.cut(0, 0);
        w.go(5);
        CHECKS.due("0 at first: nothing is washed", w.face(0, 0, 3), 100);
        CHECKS.fails("-1", w.weather(5, 5, 0, -1));
        CHECKS.fails("10", w.weather(5, 5, 0, 10));
        CHECKS.holds("0", w.weather(5, 5, 0, 0));
        w.go(1);
        CHECKS.due("nothing is washed by 0", w.face(0, 0, 3), 100);
        CHECKS.holds("9", w.weather(6, 6, 0, 9));
        w.go(1);
        CHECKS.due("by 9", w.face(0, 0, 3), 91);
        CHECKS.holds("1", w.weather(7, 7, 4, 1));
        w.go(1);
        CHECKS.due("95, too little for 1", w.face(0, 0, 3), 95);
        w.goTo(3640);
        w.cut(0, 0);
        w.goTo(3649);
        CHECKS.due("0 at first: 120 and 10 more", w.face(0, 0, 3), 95 + 10 + 120);
        w.go(1);
        CHECKS.due("0 at first, on the last day that ends", w.face(0, 0, 3), 225 + 5);
        CHECKS.due("washed", w.count(5), 9);
    }

    private static void woodsAre0To5() {
        CHECKS.sentence("WOODS are 0 .. 5");
        Woods w = new Woods();
        CHECKS.due("-1", w.tree(-1, 0, 100), -1);
        CHECKS.due("6", w.tree(6, 0, 100), -1);
        for (int wood = 0; wood <= 5; wood++) {
            CHECKS.due("tree of wood " + wood, w.tree(wood, 0, 100), wood);
            w.cut(wood, 0);
        }
        w.go(1);
        for (int wood = 0; wood <= 5; wood++) {
            w.empty(wood);
            CHECKS.due("the barrel's wood", w.barrel(wood, 6), wood);
        }
    }

    private static void treesAreAtMost60() {
        CHECKS.sentence("TREES have numbers as they come, at most 60");
        Woods w = new Woods();
        for (int number = 0; number < 60; number++) {
            CHECKS.due("number", w.tree(5 - number % 6, 99 - number, 400 - number), number);
        }
        CHECKS.due("the 61st", w.tree(0, 0, 100), -1);
        CHECKS.due("60 are", w.count(1), 60);
        CHECKS.due("the last one is one", w.cut(59, 0), 1);
        CHECKS.due("behind it is none", w.cut(60, 0), -1);
    }

    private static void placesAre0To99() {
        CHECKS.sentence("a WOOD, a PLACE x, y (0 .. 99)");
        Woods w = new Woods();
        CHECKS.due("-1", w.tree(0, -1, 100), -1);
        CHECKS.due("x 100", w.tree(0, 10000, 100), -1);
        int[] places = {0, 99, 9900, 9999, 100};
        for (int i = 0; i < places.length; i++) {
            CHECKS.due("place " + places[i], w.tree(0, places[i], 100), i);
        }
        CHECKS.due("x 0, y 99 from x 0, y 0", w.walked(2, 0, 0, 1), 99);
        CHECKS.due("x 99, y 0 from x 0, y 0", w.walked(4, 0, 0, 1), 99);
        CHECKS.due("x 99, y 99 from x 0, y 0", w.walked(8, 0, 0, 1), 198);
        CHECKS.due("x 99, y 0 from x 0, y 99", w.walked(4, 0, 99, 1), 198);
        CHECKS.due("x 1, y 0 from x 0, y 99: 100 isn't next to 99", w.walked(16, 0, 99, 1), 100);
        CHECKS.due("x 1, y 0 from x 0, y 0", w.walked(16, 0, 0, 1), 1);
    }

    private static void girthsAre20To400() {
        CHECKS.sentence("a GIRTH (20 .. 400).");
        Woods w = new Woods();
        CHECKS.due("19", w.tree(0, 0, 19), -1);
        CHECKS.due("20", w.tree(0, 0, 20), 0);
        CHECKS.due("400", w.tree(0, 0, 400), 1);
        CHECKS.due("401", w.tree(0, 0, 401), -1);
        CHECKS.due("trees", w.count(1), 2);
    }

    private static void girthsBearFaces() {
        CHECKS.sentence("It BEARS no FACE below a GIRTH of 80, one below 150, two below 220, else three.");
        int[] girths = {20, 79, 80, 149, 150, 219, 220, 400};
        int[] faces = {0, 0, 1, 1, 2, 2, 3, 3};
        Woods w = new Woods();
        for (int i = 0; i < girths.length; i++) {
            CHECKS.due("a girth of " + girths[i], w.bears(girths[i]), faces[i]);
            w.tree(0, 0, girths[i]);
            for (int face = 0; face < faces[i]; face++) {
                CHECKS.due("girth " + girths[i] + " is cut on face " + face, w.cut(i, face), 1);
            }
            CHECKS.due("girth " + girths[i] + " bears no face " + faces[i], w.cut(i, faces[i]), -1);
        }
    }

    private static void facesHaveNumbersAsOpened() {
        CHECKS.sentence("FACES of a TREE have numbers 0, 1, 2 as they are opened.");
        Woods w = withTree(220);
        CHECKS.due("1 isn't the first", w.cut(0, 1), -1);
        for (int face = 0; face <= 2; face++) {
            CHECKS.due("opened", w.cut(0, face), 1);
            CHECKS.due("the number behind the next", w.cut(0, face + 2), -1);
            w.go(1);
        }
        for (int face = 0; face <= 2; face++) {
            CHECKS.due("the day of face " + face, w.face(0, face, 1), face);
        }
        CHECKS.due("no face 3", w.face(0, 3, 0), -1);
    }

    private static void firstStreakOpensAFace() {
        CHECKS.sentence("A STREAK is cut on a FACE: the first one opens it");
        Woods w = withTree(150);
        w.go(365);
        int[] want = {1, 365, 1, 0, 0, 0, 0, 0, 0};
        for (int what = 0; what <= 8; what++) {
            CHECKS.due("not open", w.face(0, 0, what), -1);
        }
        w.cut(0, 0);
        for (int what = 0; what <= 8; what++) {
            CHECKS.due("open: " + what, w.face(0, 0, what), want[what]);
            CHECKS.due("the other isn't", w.face(0, 1, what), -1);
        }
        w.go(400);
        w.cut(0, 0);
        CHECKS.due("a next one doesn't open it anew", w.face(0, 0, 2), 1);
    }

    private static void streaksAreFiveDaysApart() {
        CHECKS.sentence("a next one not less than 5 DAYS behind the one ahead");
        Woods w = withTree(150);
        w.cut(0, 0);
        for (int day = 0; day < 5; day++) {
            CHECKS.due(day + " days behind", w.cut(0, 0), -1);
            w.go(1);
        }
        CHECKS.due("5 days behind", w.cut(0, 0), 2);
        CHECKS.due("a face that isn't open needn't wait", w.cut(0, 1), 1);
        w.go(4);
        CHECKS.due("4 days behind the second", w.cut(0, 0), -1);
        w.go(1);
        CHECKS.due("5 days behind the second", w.cut(0, 0), 3);
        w.go(6);
        CHECKS.due("6 days behind the third", w.cut(0, 0), 4);
        w.go(400);
        CHECKS.due("400 days behind the fourth", w.cut(0, 0), 5);
    }

    private static void fiveDaysGoOnOverTheNewYear() {
        CHECKS.sentence("not less than 5 DAYS behind the one ahead");
        Woods w = withTree(80);
        w.go(362);
        w.cut(0, 0);
        w.go(4);
        CHECKS.due("4 days, in a new year", w.cut(0, 0), -1);
        w.go(1);
        CHECKS.due("5 days, in a new year", w.cut(0, 0), 2);
    }

    private static void facesHaveAtMost40Streaks() {
        CHECKS.sentence("at most 40 on a FACE");
        Woods w = withTree(150);
        for (int streak = 1; streak <= 40; streak++) {
            CHECKS.due("streak", w.cut(0, 0), streak);
            w.go(5);
        }
        CHECKS.due("the 41st", w.cut(0, 0), -1);
        w.go(400);
        CHECKS.due("the 41st in another year", w.cut(0, 0), -1);
        CHECKS.due("40 are", w.face(0, 0, 0), 40);
        CHECKS.due("the first one on another face", w.cut(0, 1), 1);
    }

    private static void restLastsForTheFifthYear() {
        CHECKS.sentence("and not on a TREE that RESTS: in a YEAR, if STREAKS were cut on it (on any FACE)");
        Woods w = withTree(400);
        for (int year = 0; year < 4; year++) {
            w.goTo(year * 365);
            CHECKS.fails("in year " + year, w.rests(0));
            w.cut(0, 0);
        }
        w.goTo(1459);
        CHECKS.fails("on the last day of year 3", w.rests(0));
        CHECKS.due("cut on the last day of year 3", w.cut(0, 0), 5);
        w.goTo(1460);
        CHECKS.holds("on the first day of year 4", w.rests(0));
        CHECKS.due("no new face on the first day of year 4", w.cut(0, 1), -1);
        w.goTo(1824);
        CHECKS.holds("on the last day of year 4", w.rests(0));
        CHECKS.due("no cut on the last day of year 4", w.cut(0, 0), -1);
        CHECKS.due("no new face on the last day of year 4", w.cut(0, 1), -1);
        w.goTo(1825);
        CHECKS.fails("on the first day of year 5", w.rests(0));
        CHECKS.due("cut on the first day of year 5", w.cut(0, 0), 6);
        CHECKS.due("a new face on the first day of year 5", w.cut(0, 1), 1);
    }

    private static void restNeedsEachOfFourYears() {
        CHECKS.sentence("in each of the four YEARS ahead.");
        Woods w = new Woods();
        for (int tree = 0; tree <= 4; tree++) {
            w.tree(0, 0, 100);
        }
        for (int year = 0; year < 4; year++) {
            w.goTo(year * 365 + 100);
            for (int tree = 0; tree <= 4; tree++) {
                if (tree != year) {
                    w.cut(tree, 0);
                }
            }
        }
        w.goTo(4 * 365 + 100);
        for (int tree = 0; tree < 4; tree++) {
            CHECKS.fails("no streak in year " + tree, w.rests(tree));
            CHECKS.due("cut: no streak in year " + tree, w.cut(tree, 0), 4);
        }
        CHECKS.holds("streaks in each year", w.rests(4));
        CHECKS.due("no cut", w.cut(4, 0), -1);
        w.goTo(5 * 365);
        CHECKS.holds("streaks in the years 1 to 4", w.rests(0));
        for (int tree = 1; tree <= 4; tree++) {
            CHECKS.fails("not in each of the years 1 to 4: " + tree, w.rests(tree));
        }
    }

    private static void restCountsTheEdgesOfYears() {
        CHECKS.sentence("if STREAKS were cut on it (on any FACE) in each of the four YEARS ahead.");
        Woods w = withTree(400);
        int[] days = {364, 365, 1094, 1095};
        int[] faces = {0, 1, 2, 1};
        for (int i = 0; i < days.length; i++) {
            w.goTo(days[i]);
            CHECKS.holds("cut on day " + days[i], w.cut(0, faces[i]) > 0);
        }
        CHECKS.fails("in year 3", w.rests(0));
        w.goTo(1460);
        CHECKS.holds("on the last or first days of four years, on three faces", w.rests(0));
        CHECKS.due("no cut", w.cut(0, 0), -1);
    }

    private static void restNeedsFourYearsNotFourStreaks() {
        CHECKS.sentence("in each of the four YEARS ahead.");
        Woods w = withTree(400);
        w.goTo(3 * 365);
        for (int streak = 1; streak <= 4; streak++) {
            CHECKS.due("in one year", w.cut(0, 0), streak);
            w.go(5);
        }
        CHECKS.fails("in that year", w.rests(0));
        w.goTo(4 * 365);
        CHECKS.fails("four streaks of one year ahead", w.rests(0));
        CHECKS.due("cut", w.cut(0, 0), 5);
        w.goTo(5 * 365);
        w.cut(0, 0);
        w.goTo(6 * 365);
        w.cut(0, 0);
        CHECKS.fails("three years ahead, and this one", w.rests(0));
        w.goTo(7 * 365);
        CHECKS.holds("the years 3 to 6", w.rests(0));
    }

    private static void restComesInTheLastYears() {
        CHECKS.sentence("in a YEAR, if STREAKS were cut on it");
        Woods w = withTree(100);
        w.tree(0, 0, 100);
        for (int year = 5; year <= 9; year++) {
            w.goTo(year * 365);
            CHECKS.due("tree 0 rests in year 9 alone: " + year, w.rests(0) ? 1 : 0, year == 9 ? 1 : 0);
            w.cut(0, 0);
            if (year > 5) {
                w.cut(1, 0);
            }
        }
        w.goTo(3649);
        CHECKS.fails("tree 1 doesn't rest in year 9", w.rests(1));
        w.goTo(3650);
        CHECKS.fails("tree 0 doesn't in year 10", w.rests(0));
        CHECKS.due("it is cut on the last day", w.cut(0, 0), 5);
        CHECKS.holds("tree 1 rests on the last day, in year 10", w.rests(1));
        CHECKS.due("it isn't cut", w.cut(1, 0), -1);
    }
}
