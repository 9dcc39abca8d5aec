/** Promises 4 to 8: weather, cut, rests, go, face. */
public final class TappingTest {
    private static final Checks CHECKS = new Checks();
    private static final int LAST = 3650;

    public static void main(String[] args) {
        weatherIsTold();
        wrongWeatherIsRefused();
        weatherIsOfDaysNotEnded();
        facesOpenInTurn();
        streaksKeepFiveDays();
        fortyStreaksAtMost();
        wrongCutsAreRefused();
        treesRest();
        anyFaceTires();
        aRestEndsAndBeginsAnew();
        daysGo();
        strengthFades();
        newStreakRenewsStrength();
        gradesAgeByYears();
        cupsRunOver();
        rainWashesEachGrade();
        facesTell();
        CHECKS.end();
    }

    private static Woods withTree(int girth) {
        Woods w = new Woods();
        w.tree(0, 0, girth);
        return w;
    }

    private static void weatherIsTold() {
        Woods w = withTree(100);
        w.cut(0, 0);
        CHECKS.holds("weather of two days", w.weather(1, 2, 9, 0));
        w.go(1);
        CHECKS.due("the day ahead of from", w.face(0, 0, 3), 30);
        w.go(1);
        CHECKS.due("from", w.face(0, 0, 3), 30 + 45);
        w.go(1);
        CHECKS.due("to", w.face(0, 0, 3), 75 + 36);
        w.go(1);
        CHECKS.due("the day behind to", w.face(0, 0, 3), 111 + 15);
        CHECKS.holds("no warmth", w.weather(4, 3649, 0, 0));
        w.go(1);
        CHECKS.due("nothing runs without warmth", w.face(0, 0, 3), 126);
        CHECKS.due("what ran", w.count(3), 126);
    }

    private static void wrongWeatherIsRefused() {
        Woods w = withTree(100);
        w.cut(0, 0);
        int[][] wrong = {
            {0, 0, -1, 0}, {0, 0, 10, 0}, {0, 0, 0, -1}, {0, 0, 0, 10}, {-1, 0, 0, 0}, {1, 0, 0, 0},
            {0, 3650, 0, 0}, {3650, 3650, 0, 0}, {0, Integer.MAX_VALUE, 0, 0}, {Integer.MIN_VALUE, 0, 0, 0},
            {0, Integer.MIN_VALUE, 0, 0}, {Integer.MAX_VALUE, Integer.MAX_VALUE, 0, 0},
            {0, 0, Integer.MAX_VALUE, 0}, {0, 0, 0, Integer.MIN_VALUE}, {0, 0, 265, 0}, {0, 0, 0, 256},
        };
        for (int[] a : wrong) {
            CHECKS.fails("weather(" + a[0] + ", " + a[1] + ", " + a[2] + ", " + a[3] + ")",
                w.weather(a[0], a[1], a[2], a[3]));
        }
        w.go(1);
        CHECKS.due("refused weather changes nothing", w.face(0, 0, 3), 30);
        CHECKS.holds("all days with the least", w.weather(1, 3649, 0, 0));
        CHECKS.holds("all days with the most", w.weather(1, 3649, 9, 9));
    }

    private static void weatherIsOfDaysNotEnded() {
        Woods w = withTree(100);
        w.go(10);
        CHECKS.fails("a day that has ended", w.weather(9, 12, 1, 1));
        CHECKS.holds("this day", w.weather(10, 10, 1, 1));
        for (int i = 0; i < 10; i++) {
            w.go(400);
        }
        CHECKS.fails("the last day", w.weather(LAST, LAST, 1, 1));
    }

    private static void facesOpenInTurn() {
        Woods w = withTree(220);
        CHECKS.due("face 1 isn't next", w.cut(0, 1), -1);
        CHECKS.due("face 0 opens", w.cut(0, 0), 1);
        CHECKS.due("face 2 isn't next", w.cut(0, 2), -1);
        CHECKS.due("face 1 opens", w.cut(0, 1), 1);
        CHECKS.due("face 2 opens", w.cut(0, 2), 1);
        CHECKS.due("no face 3", w.cut(0, 3), -1);
        CHECKS.due("face 3 tells nothing", w.face(0, 3, 0), -1);
    }

    private static void streaksKeepFiveDays() {
        Woods w = withTree(220);
        w.cut(0, 0);
        CHECKS.due("the same day", w.cut(0, 0), -1);
        w.go(4);
        CHECKS.due("four days behind", w.cut(0, 0), -1);
        CHECKS.due("refused cuts change nothing", w.face(0, 0, 1), 0);
        CHECKS.due("another face doesn't wait", w.cut(0, 1), 1);
        w.go(1);
        CHECKS.due("five days behind", w.cut(0, 0), 2);
        CHECKS.due("the other face waits by itself", w.cut(0, 1), -1);
        w.go(4);
        CHECKS.due("the other face, five days behind", w.cut(0, 1), 2);
    }

    private static void fortyStreaksAtMost() {
        Woods w = withTree(220);
        for (int i = 1; i <= 40; i++) {
            CHECKS.due("streak " + i, w.cut(0, 0), i);
            w.go(5);
        }
        CHECKS.due("the 41st streak", w.cut(0, 0), -1);
        CHECKS.due("streaks", w.face(0, 0, 0), 40);
        CHECKS.due("the latest one", w.face(0, 0, 1), 39 * 5);
        CHECKS.due("another face may be cut yet", w.cut(0, 1), 1);
    }

    private static void wrongCutsAreRefused() {
        Woods w = withTree(400);
        int[] wrong = {Integer.MIN_VALUE, -1, 1, 2, 3, 60, Integer.MAX_VALUE};
        for (int number : wrong) {
            CHECKS.due("cut(" + number + ", 0)", w.cut(number, 0), -1);
            CHECKS.due("cut(0, " + number + ")", w.cut(0, number), -1);
            CHECKS.fails("rests(" + number + ")", w.rests(number));
            CHECKS.due("face(" + number + ", 0, 0)", w.face(number, 0, 0), -1);
        }
        CHECKS.due("face 0 isn't open", w.face(0, 0, 0), -1);
        w.burn(0);
        CHECKS.due("a burnt tree isn't cut", w.cut(0, 0), -1);
    }

    private static void goToYear(Woods w, int year) {
        while (w.count(0) < year * 365) {
            w.go(Math.min(400, year * 365 - w.count(0)));
        }
    }

    private static void treesRest() {
        Woods w = withTree(400);
        w.tree(0, 0, 400);
        w.tree(0, 0, 400);
        for (int year = 0; year < 4; year++) {
            goToYear(w, year);
            w.cut(0, 0);
            if (year != 0) {
                w.cut(1, 0);
            }
            if (year != 2) {
                w.cut(2, 0);
            }
            CHECKS.fails("no rest in year " + year, w.rests(0));
        }
        w.go(364);
        CHECKS.due("the last day of year 3", w.count(0), 1459);
        CHECKS.fails("no rest yet", w.rests(0));
        CHECKS.due("a cut yet", w.cut(0, 0), 5);
        w.go(1);
        CHECKS.holds("rest in year 4", w.rests(0));
        w.go(5);
        CHECKS.due("no cut in year 4", w.cut(0, 0), -1);
        CHECKS.due("no new face either", w.cut(0, 1), -1);
        CHECKS.fails("three years ahead don't do", w.rests(1));
        CHECKS.due("cut in year 4", w.cut(1, 0), 4);
        CHECKS.fails("four years with a gap don't do", w.rests(2));
        goToYear(w, 5);
        CHECKS.fails("the rest has ended", w.rests(0));
        CHECKS.holds("cut in years 1 to 4", w.rests(1));
    }

    private static void anyFaceTires() {
        Woods w = withTree(400);
        w.cut(0, 0);
        goToYear(w, 1);
        w.cut(0, 1);
        goToYear(w, 2);
        w.cut(0, 2);
        goToYear(w, 3);
        w.cut(0, 0);
        goToYear(w, 4);
        CHECKS.holds("rest by streaks on three faces", w.rests(0));
        w.burn(0);
        CHECKS.holds("a burnt tree rests as well", w.rests(0));
    }

    private static void aRestEndsAndBeginsAnew() {
        Woods w = withTree(80);
        int streaks = 0;
        for (int year = 0; year <= 10; year++) {
            goToYear(w, year);
            boolean tired = year == 4 || year == 9;
            CHECKS.due("rest in year " + year, w.rests(0) ? 1 : 0, tired ? 1 : 0);
            streaks += tired ? 0 : 1;
            CHECKS.due("cut in year " + year, w.cut(0, 0), tired ? -1 : streaks);
        }
        CHECKS.due("year 10 is the last day", w.count(0), LAST);
    }

    private static void daysGo() {
        Woods w = withTree(100);
        CHECKS.due("go(0)", w.go(0), 0);
        int[] wrong = {-1, 401, Integer.MIN_VALUE, Integer.MAX_VALUE};
        for (int n : wrong) {
            CHECKS.due("go(" + n + ")", w.go(n), -1);
        }
        CHECKS.due("refused days don't go", w.count(0), 0);
        CHECKS.due("go(1)", w.go(1), 1);
        for (int i = 1; i <= 9; i++) {
            CHECKS.due("go(400), time " + i, w.go(400), 1 + 400 * i);
        }
        CHECKS.due("go(48)", w.go(48), 3649);
        CHECKS.due("go(2)", w.go(2), LAST);
        CHECKS.due("go(0) at the end", w.go(0), LAST);
        CHECKS.due("go(400) at the end", w.go(400), LAST);
        CHECKS.due("go(401) at the end", w.go(401), -1);
        CHECKS.due("a cut on the last day", w.cut(0, 0), 1);
        w.go(1);
        CHECKS.due("the last day doesn't end", w.face(0, 0, 3), 0);
        CHECKS.due("its year", w.face(0, 0, 2), 10);
    }

    private static void strengthFades() {
        Woods w = withTree(100);
        w.weather(0, 3649, 1, 0);
        w.go(3);
        w.cut(0, 0);
        int[] strength = {6, 5, 4, 3, 2, 1, 1, 1, 1, 1, 0, 0};
        int sum = 0;
        for (int day = 0; day < strength.length; day++) {
            sum += strength[day];
            w.go(1);
            CHECKS.due("sum behind day " + day, w.face(0, 0, 3), sum);
            CHECKS.due("ran behind day " + day, w.count(3), sum);
        }
    }

    private static void newStreakRenewsStrength() {
        Woods w = withTree(100);
        w.cut(0, 0);
        w.go(7);
        CHECKS.due("seven days", w.face(0, 0, 3), 5 * (6 + 5 + 4 + 3 + 2 + 1 + 1));
        w.cut(0, 0);
        w.go(2);
        CHECKS.due("two days of the next streak", w.face(0, 0, 3), 110 + 5 * (6 + 5));
    }

    private static void gradesAgeByYears() {
        Woods w = withTree(400);
        w.weather(0, 3649, 1, 0);
        w.go(363);
        w.cut(0, 0);
        w.go(4);
        CHECKS.due("grade 0 until the year's end", w.face(0, 0, 4), 6 + 5);
        CHECKS.due("grade 1 from the new year on", w.face(0, 0, 5), 4 + 3);
        CHECKS.due("opened in year 0", w.face(0, 0, 2), 0);
        w.cut(0, 1);
        w.go(1);
        CHECKS.due("a face opened later begins with grade 0", w.face(0, 1, 4), 6);
        CHECKS.due("opened in year 1", w.face(0, 1, 2), 1);
        for (int year = 2; year <= 5; year++) {
            goToYear(w, year);
            w.cut(0, 0);
            w.go(1);
        }
        CHECKS.due("grade 2", w.face(0, 0, 6), 25);
        CHECKS.due("grade 3 at most: a streak of year 3, a rest in year 4, a day of year 5", w.face(0, 0, 7), 25 + 6);
        CHECKS.due("a new streak leaves the year of opening", w.face(0, 0, 2), 0);
    }

    private static void cupsRunOver() {
        Woods w = withTree(220);
        w.weather(0, 3649, 9, 0);
        w.cut(0, 0);
        w.go(5);
        w.cut(0, 0);
        w.cut(0, 1);
        w.go(5);
        CHECKS.due("not full yet", w.face(0, 0, 3), 360);
        CHECKS.due("nothing ran over", w.face(0, 0, 8), 0);
        w.go(4);
        CHECKS.due("396 in the cup", w.face(0, 0, 3), 396);
        w.go(1);
        CHECKS.due("400 at most", w.face(0, 0, 3), 400);
        CHECKS.due("5 of 9 ran over", w.face(0, 0, 8), 5);
        CHECKS.due("what ran counts all", w.count(3), 405 + 225);
        w.cut(0, 0);
        w.go(1);
        CHECKS.due("all runs over a full cup", w.face(0, 0, 8), 5 + 54);
        CHECKS.due("a full cup stays full", w.face(0, 0, 3), 400);
        CHECKS.due("the other cup doesn't", w.face(0, 1, 8), 0);
        CHECKS.due("ran over in all", w.count(4), 59);
        w.empty(0);
        CHECKS.due("what ran over stays told", w.face(0, 0, 8), 59);
    }

    private static void rainWashesEachGrade() {
        Woods w = withTree(100);
        w.go(364);
        w.weather(364, 364, 5, 9);
        w.weather(365, 365, 7, 4);
        w.cut(0, 0);
        w.go(1);
        CHECKS.due("30 run, 2 are washed on the same day", w.face(0, 0, 3), 28);
        w.go(1);
        CHECKS.due("of 28 of grade 0 one is washed", w.face(0, 0, 4), 27);
        CHECKS.due("of 35 of grade 1 one is washed", w.face(0, 0, 5), 34);
        CHECKS.due("in the cup", w.face(0, 0, 3), 61);
        CHECKS.due("washed", w.count(5), 4);
        CHECKS.due("washing isn't running over", w.count(4), 0);
        Woods full = withTree(100);
        full.weather(0, 9, 9, 0);
        full.cut(0, 0);
        full.go(5);
        full.cut(0, 0);
        full.go(5);
        full.cut(0, 0);
        full.weather(10, 10, 9, 9);
        full.go(1);
        CHECKS.due("the cup runs over ahead of the rain", full.face(0, 0, 8), 14);
        CHECKS.due("rain makes room", full.face(0, 0, 3), 364);
    }

    private static void facesTell() {
        Woods w = withTree(100);
        w.go(6);
        w.cut(0, 0);
        w.go(5);
        w.cut(0, 0);
        w.go(1);
        int[] want = {2, 11, 0, 130, 130, 0, 0, 0, 0};
        for (int what = 0; what < want.length; what++) {
            CHECKS.due("face(0, 0, " + what + ")", w.face(0, 0, what), want[what]);
        }
        int[] wrong = {Integer.MIN_VALUE, -1, 9, Integer.MAX_VALUE};
        for (int what : wrong) {
            CHECKS.due("face(0, 0, " + what + ")", w.face(0, 0, what), -1);
            CHECKS.due("face(0, " + what + ", 0)", w.face(0, what, 0), -1);
        }
    }
}
