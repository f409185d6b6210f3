/** The boundaries of terms 1 and 2 and of promises 7 to 10, 12 to 18, 23, 27, 30 and 34: sights, the error, edges. */
public final class SightBoundaryTest {
    private static final Check CHECK = new Check("SightBoundaryTest");
    private static final int NONE = SpiritWall.NONE;
    private static final int NO_HEIGHT = SpiritWall.NO_HEIGHT;
    private static final int LEAST = Boundary.LEAST;
    private static final int GREATEST = Boundary.GREATEST;

    public static void main(String[] args) throws IllegalAccessException {
        Boundary.runAll(CHECK, SightBoundaryTest.class);
    }

    private static SpiritWall withSight(int distance, String settings, int end, int reading, int heat) {
        SpiritWall x = Boundary.two(distance, settings);
        x.addSight(0, 1, end, reading, heat);
        return x;
    }

    // ---- constants and term 1

    @Says(at = "Constants", text = "`NONE = -1`: There is no such thing")
    static void constants() {
        CHECK.due("NONE", -1, SpiritWall.NONE);
        CHECK.due("FORE and BACK", "0 1", SpiritWall.FORE + " " + SpiritWall.BACK);
    }

    @Says(at = "Constants", text = "`NO_HEIGHT = -10000000`: Returned as a height or a rise if there is none")
    static void constantNoHeight() {
        CHECK.due("NO_HEIGHT", -10000000, SpiritWall.NO_HEIGHT);
        SpiritWall x = Boundary.two(5, "");
        CHECK.due("height", -10000000, x.height(0));
        CHECK.due("rise", -10000000, x.rise(0, 1));
    }

    @Says(at = "Term 1", text = "The distance of two marks is the difference of their places")
    static void term1Distance() {
        int[][] places = {{0, 99999, 99999}, {99999, 0, 99999}, {0, 1, 1}, {99999, 99998, 1}, {7, 50000, 49993}};
        for (int[] row : places) {
            SpiritWall x = Check.wall("mark a " + row[0] + ";mark b " + row[1] + ";sight a b fore 0;");
            CHECK.due("between " + row[0] + " and " + row[1], row[2] + " " + row[2], x.edge(0, 1, 1) + " " + x.edge(1, 0, 1));
        }
    }

    @Says(at = "Term 1", text = "Sights that are struck out do not count, unless something else is said")
    static void term1AllStruckOut() {
        SpiritWall x = Boundary.full();
        CHECK.due("before", "40 0 40 11 29 29 1", x.count(2) + " " + x.count(3) + " " + x.count(4) + " " + x.count(5) + " " + x.count(6)
                + " " + x.count(7) + " " + x.count(10));
        for (int s = 0; s < 40; s++) x.strike(s, true);
        CHECK.due("counts", "40 40 0 0 0 0 12", x.count(2) + " " + x.count(3) + " " + x.count(4) + " " + x.count(5) + " " + x.count(6)
                + " " + x.count(7) + " " + x.count(10));
        CHECK.due("mean", 0.0, x.meanSwings());
        CHECK.due("share", 1.0f, x.closedShare());
        CHECK.due("found", "-1 -1 -1 -1 0 0", x.worstLoop() + " " + x.suspect() + " " + x.outlier() + " " + x.bestStrike() + " "
                + x.leastLimit() + " " + x.bridges());
        CHECK.due("mark", "0 0 0", x.mark(0, 2) + " " + x.mark(0, 3) + " " + x.mark(0, 4));
        CHECK.due("edge", "-1 -10000000 -10000000", x.edge(0, 1, 0) + " " + x.rise(0, 1) + " " + x.along(0, 1));
        x.strike(39, false);
        CHECK.due("one of them", "39 1 1 0 11", x.count(3) + " " + x.count(4) + " " + x.count(5) + " " + x.count(6) + " " + x.count(10));
    }

    @Says(at = "Term 1", text = "The swings of a sight are its distance divided by LENGTH, rounded up")
    static void term1Swings() {
        int[][] due = {{1000, 1000, 1}, {1001, 1000, 2}, {999, 1000, 1}, {2000, 1000, 2}, {2001, 1000, 3}, {1, 1, 1}, {1, 9999, 1},
            {9999, 9999, 1}, {9998, 9999, 1}, {10000, 9999, 2}, {99999, 1, 99999}, {99999, 2, 50000}, {99999, 9999, 11},
            {99990, 9999, 10}, {99991, 9999, 11}, {99989, 9999, 10}};
        for (int[] row : due) {
            SpiritWall x = withSight(row[0], "length " + row[1] + ";", 0, 0, 20);
            CHECK.due(row[0] + " by " + row[1], row[2], x.sight(0, 6));
        }
    }

    @Says(at = "Term 1", text = "it is in a sight once if the number of its swings is odd, otherwise it is not")
    static void term1ErrorBySwings() {
        int[][] due = {{1000, 1}, {1001, 0}, {2000, 0}, {2001, 1}, {3000, 1}, {3001, 0}, {1, 1}};
        for (int[] row : due) {
            SpiritWall x = withSight(row[0], "error 999;", 0, 5, 20);
            CHECK.due("fore at " + row[0], 5 - 999 * row[1], x.sight(0, 9));
            x.swap(0, 5);
            CHECK.due("back at " + row[0], 5 + 999 * row[1], x.sight(0, 9));
        }
        CHECK.due("99999 swings, once", 5 - 999, withSight(99999, "error 999;length 1;", 0, 5, 20).sight(0, 9));
        CHECK.due("50000 swings", 5, withSight(99999, "error 999;length 2;", 0, 5, 20).sight(0, 9));
    }

    // ---- term 2: rises

    @Says(at = "Term 2", text = "its bend is BEND times d times d, divided by 100000000, rounded down")
    static void term2Bend() {
        int[][] due = {{0, 99999, 0}, {1, 9999, 0}, {1, 10000, 1}, {1, 14142, 1}, {1, 14143, 2}, {4, 5000, 1}, {4, 4999, 0}, {99, 1, 0},
            {99, 1005, 0}, {99, 1006, 1}, {1, 46341, 21}, {16, 2500, 1}, {12, 76103, 694}, {98, 99591, 9719}, {1, 99999, 99}, {99, 99999, 9899}, {98, 99999, 9799}};
        for (int[] row : due) {
            SpiritWall x = withSight(row[1], "bend " + row[0] + ";error 0;", 0, 0, 20);
            CHECK.due(row[0] + " at " + row[1], row[2] + " " + -row[2], x.sight(0, 7) + " " + x.sight(0, 9));
        }
    }

    @Says(at = "Term 2", text = "its warmth is the product of WARM, of the heat less 20, and of d, divided by 100000, rounded down")
    static void term2Warmth() {
        int[][] due = {{0, 60, 99999, 0}, {99, 20, 99999, 0}, {1, 21, 1, 0}, {1, 19, 1, -1}, {-1, 21, 1, -1}, {-1, 19, 1, 0},
            {1, 21, 99999, 0}, {1, 19, 99999, -1}, {2, 21, 50000, 1}, {2, 21, 49999, 0}, {-2, 21, 50000, -1}, {-2, 21, 50001, -2},
            {-2, 21, 49999, -1}, {99, 60, 99999, 3959}, {-99, 60, 99999, -3960}, {99, -40, 99999, -5940}, {-99, -40, 99999, 5939},
            {99, 0, 99999, -1980}};
        for (int[] row : due) {
            SpiritWall x = withSight(row[2], "warm " + row[0] + ";error 0;", 0, 0, row[1]);
            CHECK.due(row[0] + " " + row[1] + " at " + row[2], row[3] + " " + -row[3], x.sight(0, 8) + " " + x.sight(0, 9));
        }
    }

    @Says(at = "Term 2", text = "its pure reading is its reading less its bend less its warmth")
    static void term2PureReading() {
        SpiritWall x = withSight(99999, "bend 99;warm -99;error 0;", 0, -9999, -40);
        CHECK.due("least", -9999 - 9899 - 5939, x.sight(0, 9));
        x = withSight(99999, "bend 0;warm 99;error 0;", 0, 9999, -40);
        CHECK.due("greatest", 9999 + 5940, x.sight(0, 9));
    }

    @Says(at = "Term 2", text = "the error if it is in the sight and the end is fore, minus the error if it is in the sight and the end is"
            + " back, otherwise 0")
    static void term2PartOfTheError() {
        String hard = "bend 99;warm -99;length 9999;error ";
        CHECK.due("least", -9999 - 9899 - 5939 - 999, withSight(99999, hard + "999;", 0, -9999, -40).sight(0, 9));
        CHECK.due("fore, below 0", -9999 - 9899 - 5939 + 999, withSight(99999, hard + "-999;", 0, -9999, -40).sight(0, 9));
        CHECK.due("back", -9999 - 9899 - 5939 + 999, withSight(99999, hard + "999;", 1, -9999, -40).sight(0, 9));
        String easy = "warm 99;length 9999;error ";
        CHECK.due("greatest", 9999 + 5940 + 999, withSight(99999, easy + "-999;", 0, 9999, -40).sight(0, 9));
        CHECK.due("back, below 0", 9999 + 5940 - 999, withSight(99999, easy + "-999;", 1, 9999, -40).sight(0, 9));
        CHECK.due("twelve swings", 9999 + 5940, withSight(99999, "warm 99;length 9000;error -999;", 0, 9999, -40).sight(0, 9));
    }

    @Says(at = "Term 2", text = "all quotients are rounded down, also below 0 (away from 0 there)")
    static void term2EdgeQuotients() {
        int[][] due = {{-1, 0, -1}, {1, 0, 0}, {-2, 0, -1}, {-3, 0, -2}, {3, 0, 1}, {0, 0, 0}, {-9999, -9998, -9999}, {9999, 9998, 9998}};
        for (int[] row : due) {
            SpiritWall x = Boundary.two(5, "error 0;");
            x.addSight(0, 1, 0, row[0], 20);
            x.addSight(0, 1, 0, row[1], 20);
            CHECK.due(row[0] + " and " + row[1], row[2] + " " + -row[2], x.rise(0, 1) + " " + x.rise(1, 0));
        }
        int[] sums = {-4, -2, -3, -1, -2, -1, -1, -1, 0, 0, 1, 0, 2, 0, 3, 1, 4, 1};
        for (int i = 0; i < sums.length; i += 2) {
            SpiritWall x = Boundary.two(5, "error 0;sight a b fore 0;sight b a fore 0;");
            x.addSight(0, 1, 0, sums[i], 20);
            CHECK.due("a third of " + sums[i], sums[i + 1] + " " + -sums[i + 1], x.rise(0, 1) + " " + x.rise(1, 0));
        }
    }

    @Says(at = "Term 2", text = "the sum of the rises of these sights, with the other sign for those that go from the greater mark to the"
            + " smaller one, divided by their number, rounded down")
    static void term2FortySights() {
        SpiritWall x = Boundary.two(99999, "bend 99;warm -99;length 9999;error 999;");
        for (int s = 0; s < 40; s++) x.addSight(0, 1, 0, -9999, -40);
        CHECK.due("least", "-26836 26836", x.rise(0, 1) + " " + x.rise(1, 0));
        x.swap(39, -9999);
        CHECK.due("one of them 1998 more", Math.floorDiv(-26836 * 40 + 1998, 40), x.rise(0, 1));
        SpiritWall y = Boundary.two(99999, "bend 99;warm -99;length 9999;error 999;");
        for (int s = 0; s < 40; s++) y.addSight(1, 0, 0, -9999, -40);
        CHECK.due("greatest", "26836 -26836", y.rise(0, 1) + " " + y.rise(1, 0));
        y = Boundary.two(5, "error 0;sight a b fore 1;sight b a fore 1;");
        CHECK.due("the other sign", "0 0", y.rise(0, 1) + " " + y.rise(1, 0));
        y = Boundary.two(5, "error 0;sight a b fore 1;sight b a fore 2;");
        CHECK.due("the other sign below 0", "-1 1", y.rise(0, 1) + " " + y.rise(1, 0));
    }

    @Says(at = "Term 2", text = "An edge is two marks between which there are sights")
    static void term2NoSights() {
        SpiritWall x = Boundary.two(5, "");
        CHECK.due("none", "0 -1", x.count(4) + " " + x.edge(0, 1, 0));
        x.addSight(1, 0, 0, 5, 20);
        CHECK.due("one", "1 1", x.count(4) + " " + x.edge(0, 1, 0));
        x.strike(0, true);
        CHECK.due("struck out", "0 -1", x.count(4) + " " + x.edge(0, 1, 0));
    }

    @Says(at = "Term 2", text = "Its weight is the number of its sights times 1000000 divided by the distance (the quotient rounded down ahead"
            + " of the product)")
    static void term2Weight() {
        int[][] due = {{1, 1, 1000000}, {1, 40, 40000000}, {3, 1, 333333}, {3, 3, 999999}, {7, 7, 999999}, {99999, 1, 10}, {99999, 40, 400},
            {90909, 1, 11}, {90910, 1, 10}, {50000, 1, 20}, {50001, 2, 38}};
        for (int[] row : due) {
            SpiritWall x = Boundary.two(row[0], "");
            for (int s = 0; s < row[1]; s++) x.addSight(0, 1, 0, 0, 20);
            CHECK.due(row[1] + " at " + row[0], row[2], x.edge(0, 1, 2));
            if (row[1] == 40) continue;
            x.addSight(0, 1, 0, 0, 20);
            x.strike(row[1], true);
            CHECK.due(row[1] + " at " + row[0] + " and one struck out", row[2], x.edge(1, 0, 2));
        }
    }

    @Says(at = "Term 2", text = "The error is the one that was told. If none was told, it is found")
    static void term2ToldOrFound() {
        String sights = "sight a b fore 10;sight a b back 0;";
        CHECK.due("found", 5, Boundary.two(5, sights).levelError());
        CHECK.due("0 is told", 0, Boundary.two(5, sights + "error 0;").levelError());
        CHECK.due("least", -999, Boundary.two(5, sights + "error -999;").levelError());
        CHECK.due("greatest", 999, Boundary.two(5, sights + "error 999;").levelError());
    }

    private static int estimate(int distance, String settings, int[]... sights) {
        SpiritWall x = Boundary.two(distance, settings);
        for (int[] sight : sights) x.addSight(sight[0], 1 - sight[0], sight[1], sight[2], sight.length > 3 ? sight[3] : 20);
        CHECK.due("the only estimate is the error", x.estimate(1, 0) == NO_HEIGHT ? 0 : x.estimate(0, 1), x.errorWith(x.setting(0)));
        return x.estimate(0, 1);
    }

    @Says(at = "Term 2", text = "a sight is said to be with the edge if its end is fore and it goes from the smaller mark number, or its end"
            + " is back and it goes from the greater one")
    static void term2WithAndAgainst() {
        CHECK.due("fore and back from the smaller", 5, estimate(5, "", new int[] {0, 0, 10}, new int[] {0, 1, 0}));
        CHECK.due("fore from both", 5, estimate(5, "", new int[] {0, 0, 10}, new int[] {1, 0, 0}));
        CHECK.due("back from both", 5, estimate(5, "", new int[] {1, 1, -10}, new int[] {0, 1, 0}));
        CHECK.due("back and fore from the greater", 5, estimate(5, "", new int[] {1, 1, -10}, new int[] {1, 0, 0}));
        CHECK.due("all with", NO_HEIGHT, estimate(5, "", new int[] {0, 0, 10}, new int[] {1, 1, 10}));
        CHECK.due("all against", NO_HEIGHT, estimate(5, "", new int[] {0, 1, 10}, new int[] {1, 0, 10}));
    }

    @Says(at = "Term 2", text = "If there are both, the edge tells an estimate")
    static void term2Both() {
        CHECK.due("no sight", NO_HEIGHT, estimate(5, ""));
        CHECK.due("one with", NO_HEIGHT, estimate(5, "", new int[] {0, 0, 10}));
        CHECK.due("one against", NO_HEIGHT, estimate(5, "", new int[] {0, 1, 10}));
        CHECK.due("both", 0, estimate(5, "", new int[] {0, 0, 10}, new int[] {0, 1, 10}));
        SpiritWall x = Boundary.two(5, "sight a b fore 10;sight a b back 0;sight a b back 4;");
        x.strike(1, true);
        CHECK.due("one struck out", 3, x.estimate(0, 1));
        x.strike(2, true);
        CHECK.due("those against struck out", "-10000000 0", x.estimate(0, 1) + " " + x.levelError());
        x.strike(1, false);
        x.strike(0, true);
        CHECK.due("those with struck out", "-10000000 0", x.estimate(0, 1) + " " + x.levelError());
    }

    @Says(at = "Term 2", text = "for each edge of which the number of swings is odd")
    static void term2OddSwings() {
        int[] distances = {1000, 1001, 2000, 2001, 3000, 3001, 1, 99999};
        int[] due = {5, NO_HEIGHT, NO_HEIGHT, 5, 5, NO_HEIGHT, 5, NO_HEIGHT};
        for (int i = 0; i < due.length; i++) {
            CHECK.due("at " + distances[i], due[i], estimate(distances[i], "", new int[] {0, 0, 10}, new int[] {0, 1, 0}));
        }
        CHECK.due("99999 swings", 5, estimate(99999, "length 1;", new int[] {0, 0, 10}, new int[] {0, 1, 0}));
    }

    @Says(at = "Term 2", text = "each mean and the half are rounded down")
    static void term2Means() {
        CHECK.due("mean of those with, below 0", -1, estimate(5, "", new int[] {0, 0, -1}, new int[] {0, 0, 0}, new int[] {0, 1, 0}));
        CHECK.due("mean of those with", 0, estimate(5, "", new int[] {0, 0, 1}, new int[] {0, 0, 2}, new int[] {0, 1, 0}));
        CHECK.due("mean of those against, below 0", 1, estimate(5, "", new int[] {0, 1, -1}, new int[] {0, 1, 0}, new int[] {0, 0, 1}));
        CHECK.due("mean of those against", 0, estimate(5, "", new int[] {0, 1, 1}, new int[] {0, 1, 2}, new int[] {0, 0, 2}));
        CHECK.due("half of -1", -1, estimate(5, "", new int[] {0, 0, -1}, new int[] {0, 1, 0}));
        CHECK.due("half of 1", 0, estimate(5, "", new int[] {0, 0, 1}, new int[] {0, 1, 0}));
        CHECK.due("half of -2", -1, estimate(5, "", new int[] {0, 0, -2}, new int[] {0, 1, 0}));
        CHECK.due("half of -3", -2, estimate(5, "", new int[] {0, 0, -3}, new int[] {0, 1, 0}));
        CHECK.due("a third of -1", -1, estimate(5, "", new int[] {0, 0, -1}, new int[] {0, 0, 0}, new int[] {1, 1, 0}, new int[] {0, 1, 0}));
    }

    @Says(at = "Term 2", text = "Here a pure reading has the other sign if the sight goes from the greater mark")
    static void term2GreatestEstimates() {
        String hard = "bend 99;warm -99;length 9999;";
        CHECK.due("greatest", 25837, estimate(99999, hard, new int[] {1, 1, -9999, -40}, new int[] {0, 1, -9999, -40}));
        CHECK.due("least", -25837, estimate(99999, hard, new int[] {0, 0, -9999, -40}, new int[] {1, 0, -9999, -40}));
        SpiritWall x = Boundary.two(99999, hard + "sight b a back -9999 heat -40;sight a b back -9999 heat -40;");
        CHECK.due("rises by the greatest error", "0 0 0", x.sight(0, 9) + " " + x.sight(1, 9) + " " + x.rise(0, 1));
        x.addSight(0, 1, 0, -9999, -40);
        x.strike(2, true);
        CHECK.due("rise of one struck out by it", "25837 -51674", x.levelError() + " " + x.sight(2, 9));
    }

    /** A wall of which the edges tell these estimates, one each. */
    private static SpiritWall estimates(int... due) {
        SpiritWall x = Check.wall(Boundary.marks(12, 1));
        int edge = 0;
        for (int a = 0; a < 12; a++) {
            for (int b = a + 1; b < 12 && edge < due.length; b++) {
                x.addSight(a, b, 0, 2 * due[edge], 20);
                x.addSight(b, a, 0, 0, 20);
                edge++;
            }
        }
        return x;
    }

    @Says(at = "Term 2", text = "The error is the median of all estimates (of an even number of them the smaller one of both in the middle)")
    static void term2Median() {
        CHECK.due("one", -7, estimates(-7).levelError());
        CHECK.due("two", -7, estimates(9, -7).levelError());
        CHECK.due("two the other way", -7, estimates(-7, 9).levelError());
        CHECK.due("three", 8, estimates(9, 8, -7).levelError());
        CHECK.due("three of two values", 9, estimates(9, 8, 9).levelError());
        CHECK.due("four", 2, estimates(9, 2, 3, -7).levelError());
        CHECK.due("five", 3, estimates(9, 2, 3, -7, 4).levelError());
        CHECK.due("all the same", 4, estimates(4, 4, 4, 4).levelError());
        int[] twenty = {17, 3, -20, 44, 5, 6, 90, -1, 0, 2, 1, 77, -45, 13, 12, 11, 10, 9, 8, 7};
        CHECK.due("twenty", 7, estimates(twenty).levelError());
        SpiritWall x = estimates(twenty);
        x.strike(6, true);
        CHECK.due("nineteen without 44", 7, x.levelError());
        x.strike(6, false);
        x.strike(4, true);
        CHECK.due("nineteen without -20", 8, x.levelError());
    }

    @Says(at = "Term 2", text = "0 without any")
    static void term2NoEstimates() {
        CHECK.due("no marks", 0, new SpiritWall().levelError());
        CHECK.due("no sights", 0, Check.wall(Boundary.marks(12, 1)).levelError());
        CHECK.due("forty edges, none with both", 0, Boundary.full().findError());
        CHECK.due("even swings", 0, Boundary.two(2000, "sight a b fore 9;sight a b back 0;").levelError());
    }

    // ---- promises 7 to 10

    @Says(at = "Promise 7", text = "NONE for another what")
    static void promise7AnotherWhat() {
        for (int what : new int[] {-1, 11, 12, LEAST, GREATEST}) {
            CHECK.due("" + what, NONE, new SpiritWall().count(what));
            Boundary.unchanged(CHECK, "busy " + what, NONE, Boundary::busy, x -> x.count(what));
        }
    }

    private static String counts(SpiritWall x) {
        StringBuilder text = new StringBuilder();
        for (int what = 0; what <= 10; what++) text.append(what > 0 ? " " : "").append(x.count(what));
        return text.toString();
    }

    @Says(at = "Promise 7", text = "Returns the number")
    static void promise7NothingAndAll() {
        CHECK.due("nothing", "0 0 0 0 0 0 0 0 0 0 0", counts(new SpiritWall()));
        CHECK.due("one mark", "1 0 0 0 0 0 0 0 0 0 1", counts(Check.wall("mark a 5;")));
        CHECK.due("one bench", "1 1 0 0 0 0 0 0 1 0 1", counts(Check.wall("mark a 5 at 0;")));
        CHECK.due("twelve marks", "12 0 0 0 0 0 0 0 0 0 12", counts(Check.wall(Boundary.marks(12, 1))));
        SpiritWall x = Boundary.full();
        CHECK.due("twelve marks and forty sights", "12 0 40 0 40 11 29 29 0 10 1", counts(x));
        for (int m = 0; m < 12; m++) x.fix(m, m);
        CHECK.due("twelve benches", "12 12 40 0 40 11 29 29 12 10 1", counts(x));
        for (int m = 0; m < 12; m++) x.free(m);
        CHECK.due("twelve heights", "12 0 40 0 40 11 29 29 12 10 1", counts(x));
    }

    @Says(at = "Promise 7", text = "10 parts (the greatest sets of marks that are joined by edges; a mark without edges is one)")
    static void promise7Parts() {
        SpiritWall x = Check.wall(Boundary.marks(12, 1));
        for (int i = 0; i < 11; i++) {
            CHECK.due("behind " + i, 12 - i, x.count(10));
            x.addSight(11 - i, 10 - i, 0, 0, 20);
        }
        CHECK.due("all joined", 1, x.count(10));
        x.addSight(0, 11, 0, 0, 20);
        x.strike(5, true);
        CHECK.due("a ring without one", 1, x.count(10));
        x.strike(6, true);
        CHECK.due("a ring without two, a mark alone", 2, x.count(10));
    }

    @Says(at = "Promise 8", text = "NONE for another what")
    static void promise8AnotherWhat() {
        for (int what : new int[] {-1, 5, 6, LEAST, GREATEST}) {
            CHECK.due("" + what, NONE, new SpiritWall().setting(what));
            Boundary.unchanged(CHECK, "busy " + what, NONE, Boundary::busy, x -> x.setting(what));
        }
    }

    @Says(at = "Promise 8", text = "Returns the setting")
    static void promise8LeastAndGreatest() {
        SpiritWall x = Check.wall("length 1;bend 0;warm -99;limit 0;error -999;");
        CHECK.due("least", "1 0 -99 0 1", x.setting(0) + " " + x.setting(1) + " " + x.setting(2) + " " + x.setting(3) + " " + x.setting(4));
        x = Check.wall("length 9999;bend 99;warm 99;limit 999;");
        CHECK.due("greatest", "9999 99 99 999 0", x.setting(0) + " " + x.setting(1) + " " + x.setting(2) + " " + x.setting(3) + " "
                + x.setting(4));
    }

    @Says(at = "Promise 9", text = "Returns the error")
    static void promise9NothingLeastGreatest() {
        CHECK.due("nothing", 0, new SpiritWall().levelError());
        CHECK.due("told without marks", -999, Check.wall("error -999;").levelError());
        SpiritWall x = Boundary.two(5, "error 999;sight a b fore 9999;sight a b back -9999;");
        CHECK.due("told", 999, x.levelError());
        x.findError();
        CHECK.due("found", 9999, x.levelError());
        x = Boundary.two(5, "sight a b fore -9999;sight a b back 9999;");
        CHECK.due("found below 0", -9999, x.levelError());
    }

    @Says(at = "Promise 10", text = "NO_HEIGHT if there is none")
    static void promise10None() {
        SpiritWall x = Check.wall(Boundary.marks(4, 1000) + "sight a b fore 5;sight a b back 5;sight b d fore 5;sight b d back 5;"
                + "sight c d fore 5;");
        CHECK.due("one", "0 0", x.estimate(0, 1) + " " + x.estimate(1, 0));
        CHECK.due("same mark", NO_HEIGHT, x.estimate(0, 0));
        CHECK.due("same mark, the last", NO_HEIGHT, x.estimate(3, 3));
        CHECK.due("no edge", "-10000000 -10000000", x.estimate(0, 2) + " " + x.estimate(3, 0));
        CHECK.due("even swings", NO_HEIGHT, x.estimate(1, 3));
        CHECK.due("not both", NO_HEIGHT, x.estimate(2, 3));
        x.strike(0, true);
        CHECK.due("struck out", NO_HEIGHT, x.estimate(0, 1));
        CHECK.due("no sights at all", NO_HEIGHT, Boundary.two(5, "").estimate(0, 1));
    }

    @Says(at = "Promise 10", text = "Returns an estimate of the error that an edge tells, also if the error was told")
    static void promise10Told() {
        SpiritWall x = Boundary.two(5, "error 999;sight a b fore -3;sight a b back 4;");
        CHECK.due("told", -4, x.estimate(0, 1));
        x.findError();
        CHECK.due("found", -4, x.estimate(1, 0));
    }

    @Says(at = "Promise 10", text = "Throws `IndexOutOfBoundsException` if there is no such mark")
    static void promise10Refused() {
        for (int mark : Boundary.WRONG_MARKS) {
            Boundary.refused(CHECK, "first " + mark, Check.INDEX, x -> x.estimate(mark, 0));
            Boundary.refused(CHECK, "second " + mark, Check.INDEX, x -> x.estimate(0, mark));
            Boundary.refused(CHECK, "both " + mark, Check.INDEX, x -> x.estimate(mark, mark));
        }
    }

    // ---- promises 12 to 18

    private static String mark(SpiritWall x, int mark) {
        StringBuilder text = new StringBuilder();
        for (int what = 0; what < 5; what++) text.append(what > 0 ? " " : "").append(x.mark(mark, what));
        return text.toString();
    }

    @Says(at = "Promise 12", text = "3 sights from it or to it, 4 its part: the smallest mark that is joined with it by edges, or itself")
    static void promise12NothingAndAll() {
        CHECK.due("alone", "5 0 0 0 0", mark(Check.wall("mark a 5;"), 0));
        SpiritWall x = Boundary.full();
        CHECK.due("first", "0 0 5 5 0", mark(x, 0));
        CHECK.due("last", "22 0 4 4 0", mark(x, 11));
        x = Check.wall(Boundary.marks(12, 1));
        for (int s = 0; s < 40; s++) x.addSight(11, 10, 0, 0, 20);
        CHECK.due("forty sights", "11 0 1 40 10", mark(x, 11));
        CHECK.due("forty sights to it", "10 0 1 40 10", mark(x, 10));
        CHECK.due("none", "9 0 0 0 9", mark(x, 9));
        x.strike(0, true);
        CHECK.due("one struck out", "11 0 1 39 10", mark(x, 11));
        x = Check.wall(Boundary.marks(12, 1));
        for (int m = 0; m < 11; m++) x.addSight(11, m, 0, 0, 20);
        CHECK.due("eleven edges", "11 0 11 11 0", mark(x, 11));
        x.strike(0, true);
        CHECK.due("part without the first", "11 0 10 10 1", mark(x, 11));
        CHECK.due("itself", "0 0 0 0 0", mark(x, 0));
    }

    @Says(at = "Promise 12", text = "Throws `IllegalArgumentException` if what is out of range")
    static void promise12What() {
        for (int what : new int[] {-1, 5, LEAST, GREATEST}) {
            Boundary.refused(CHECK, "what " + what, Check.ARGUMENT, x -> x.mark(0, what));
            Boundary.refused(CHECK, "what " + what + " of the last", Check.ARGUMENT, x -> x.mark(3, what));
        }
    }

    @Says(at = "Promise 12", text = "Throws `IndexOutOfBoundsException` if there is no such mark")
    static void promise12Refused() {
        for (int mark : Boundary.WRONG_MARKS) {
            Boundary.refused(CHECK, "mark " + mark, Check.INDEX, x -> x.mark(mark, 0));
            Boundary.refused(CHECK, "mark and what " + mark, Check.INDEX, x -> x.mark(mark, 5));
        }
        Boundary.refused(CHECK, "no marks", Check.INDEX, SpiritWall::new, x -> x.mark(0, 0));
    }

    @Says(at = "Promise 15", text = "9 its rise (also of one that is struck out, by the error as it is)")
    static void promise15StruckOut() {
        SpiritWall x = Boundary.two(5, "sight a b fore 10;sight a b back 0;sight b a fore -7;");
        x.strike(2, true);
        CHECK.due("found by the others", 5, x.levelError());
        CHECK.due("struck out", "1 0 0 -7 20 1 -12", Boundary.sight(x, 2) + " " + x.sight(2, 9));
        x.strike(0, true);
        x.strike(1, true);
        CHECK.due("all struck out", "10 0 -7", x.sight(0, 9) + " " + x.sight(1, 9) + " " + x.sight(2, 9));
        x.tellError(999);
        CHECK.due("told", "-989 999 -1006", x.sight(0, 9) + " " + x.sight(1, 9) + " " + x.sight(2, 9));
    }

    @Says(at = "Promise 15", text = "Returns a number of a sight, struck out or not")
    static void promise15FirstAndLast() {
        SpiritWall x = Check.wall(Boundary.marks(12, 1) + "error 0;");
        for (int s = 0; s < 39; s++) x.addSight(s % 11, s % 11 + 1, s % 2, s, s);
        x.addSight(11, 0, 1, 9999, 60);
        CHECK.due("first", "0 1 0 0 0 0", Boundary.sight(x, 0));
        CHECK.due("last", "11 0 1 9999 60 0", Boundary.sight(x, 39));
        x.strike(39, true);
        CHECK.due("last struck out", "11 0 1 9999 60 1", Boundary.sight(x, 39));
        CHECK.due("last but one", "5 6 0 38 38 0", Boundary.sight(x, 38));
    }

    @Says(at = "Promise 15", text = "Throws `IndexOutOfBoundsException` if there is no such sight")
    static void promise15Refused() {
        for (int sight : Boundary.WRONG_SIGHTS) {
            Boundary.refused(CHECK, "sight " + sight, Check.INDEX, x -> x.sight(sight, 0));
            Boundary.refused(CHECK, "sight and what " + sight, Check.INDEX, x -> x.sight(sight, -1));
        }
        Boundary.refused(CHECK, "no sights", Check.INDEX, () -> Boundary.two(5, ""), x -> x.sight(0, 0));
    }

    @Says(at = "Promise 15", text = "Throws `IllegalArgumentException` if what is out of range")
    static void promise15What() {
        for (int what : new int[] {-1, 10, LEAST, GREATEST}) {
            Boundary.refused(CHECK, "what " + what, Check.ARGUMENT, x -> x.sight(0, what));
            Boundary.refused(CHECK, "what " + what + " of one struck out", Check.ARGUMENT, x -> x.sight(1, what));
        }
    }

    @Says(at = "Promise 16", text = "NO_HEIGHT if there is no such edge")
    static void promise16None() {
        SpiritWall x = Boundary.full();
        CHECK.due("same mark", "-10000000 -10000000", x.rise(0, 0) + " " + x.rise(11, 11));
        CHECK.due("joined, but no edge", "-10000000 -10000000", x.rise(0, 11) + " " + x.rise(11, 0));
        CHECK.due("an edge", "0 0", x.rise(0, 1) + " " + x.rise(11, 10));
        CHECK.due("no sights", NO_HEIGHT, Boundary.two(5, "").rise(0, 1));
    }

    @Says(at = "Promise 16", text = "Throws `IndexOutOfBoundsException` if there is no such mark")
    static void promise16Refused() {
        for (int mark : Boundary.WRONG_MARKS) {
            Boundary.refused(CHECK, "first " + mark, Check.INDEX, x -> x.rise(mark, 0));
            Boundary.refused(CHECK, "second " + mark, Check.INDEX, x -> x.rise(0, mark));
            Boundary.refused(CHECK, "both " + mark, Check.INDEX, x -> x.rise(mark, mark));
        }
    }

    @Says(at = "Promise 17", text = "NONE if there is no such edge")
    static void promise17None() {
        SpiritWall x = Boundary.full();
        for (int what = 0; what < 7; what++) {
            CHECK.due("same mark " + what, NONE, x.edge(5, 5, what));
            CHECK.due("no edge " + what, "-1 -1", x.edge(0, 11, what) + " " + x.edge(11, 0, what));
            CHECK.due("no sights " + what, NONE, Boundary.two(5, "").edge(0, 1, what));
        }
    }

    @Says(at = "Promise 17", text = "4 the loops in which it is, 5 those of them that do not close")
    static void promise17Loops() {
        CHECK.due("none", "0 0", Boundary.two(5, "sight a b fore 1;").edge(0, 1, 4) + " "
                + Boundary.two(5, "sight a b fore 1;").edge(0, 1, 5));
        SpiritWall x = Boundary.full();
        int[] due = {4, 8, 10, 11, 11, 10, 9, 9, 8, 6, 3};
        for (int m = 0; m < 11; m++) CHECK.due("closing at " + m, due[m] + " 0", x.edge(m, m + 1, 4) + " " + x.edge(m, m + 1, 5));
        for (int s = 11; s < 40; s++) x.swap(s, 9999);
        for (int m = 0; m < 11; m++) CHECK.due("open at " + m, due[m] + " " + due[m], x.edge(m, m + 1, 4) + " " + x.edge(m, m + 1, 5));
        CHECK.due("an edge that tells a loop", "1 1", x.edge(0, 5, 4) + " " + x.edge(5, 0, 5));
    }

    @Says(at = "Promise 17", text = "6 by how much its greatest rise of a sight is greater than its least one (from the smaller mark)")
    static void promise17Spread() {
        SpiritWall x = Boundary.two(99999, "warm 99;length 9999;error -999;sight a b fore 9999 heat -40;");
        CHECK.due("one sight", 0, x.edge(0, 1, 6));
        x.addSight(1, 0, 0, 9999, -40);
        CHECK.due("greatest", 2 * 16938, x.edge(0, 1, 6));
        x.strike(0, true);
        CHECK.due("one of two", 0, x.edge(0, 1, 6));
        x = Boundary.two(5, "error 0;sight a b fore 9;sight a b fore 9;sight b a fore -9;");
        CHECK.due("all the same", 0, x.edge(1, 0, 6));
        x.addSight(0, 1, 0, 8, 20);
        CHECK.due("all above 0", 1, x.edge(1, 0, 6));
        x = Boundary.two(5, "error 0;sight a b fore -9;sight a b fore -7;");
        CHECK.due("all below 0", 2, x.edge(1, 0, 6));
    }

    @Says(at = "Promise 17", text = "Throws `IndexOutOfBoundsException` if there is no such mark")
    static void promise17Refused() {
        for (int mark : Boundary.WRONG_MARKS) {
            Boundary.refused(CHECK, "first " + mark, Check.INDEX, x -> x.edge(mark, 0, 0));
            Boundary.refused(CHECK, "second " + mark, Check.INDEX, x -> x.edge(0, mark, 0));
            Boundary.refused(CHECK, "both " + mark, Check.INDEX, x -> x.edge(mark, mark, 0));
            Boundary.refused(CHECK, "second and what " + mark, Check.INDEX, x -> x.edge(0, mark, 7));
        }
    }

    @Says(at = "Promise 17", text = "Throws `IllegalArgumentException` if what is out of range")
    static void promise17What() {
        for (int what : new int[] {-1, 7, LEAST, GREATEST}) {
            Boundary.refused(CHECK, "what " + what, Check.ARGUMENT, x -> x.edge(0, 1, what));
            Boundary.refused(CHECK, "what " + what + " of no edge", Check.ARGUMENT, x -> x.edge(0, 3, what));
            Boundary.refused(CHECK, "what " + what + " of the same mark", Check.ARGUMENT, x -> x.edge(0, 0, what));
        }
    }

    @Says(at = "Promise 18", text = "number of a mark, also the same")
    static void promise18Same() {
        SpiritWall x = Boundary.full();
        for (int m = 0; m < 12; m++) CHECK.due("of " + m, 0, x.along(m, m));
        CHECK.due("without sights", 0, Check.wall("mark a 5;").along(0, 0));
    }

    @Says(at = "Promise 18", text = "Returns the sum of rises; NO_HEIGHT if they are not joined")
    static void promise18NotJoined() {
        SpiritWall x = Check.wall(Boundary.marks(12, 1) + "error 999;");
        for (int m = 0; m < 11; m++) x.addSight(m, m + 1, 0, -9999, 20);
        CHECK.due("eleven edges", "-120978 120978", x.along(0, 11) + " " + x.along(11, 0));
        CHECK.due("one edge", "-10998 10998", x.along(5, 6) + " " + x.along(6, 5));
        x.strike(5, true);
        CHECK.due("cut in two", "-10000000 -10000000", x.along(0, 11) + " " + x.along(11, 0));
        CHECK.due("each side", "-54990 -54990", x.along(0, 5) + " " + x.along(6, 11));
        CHECK.due("without sights", NO_HEIGHT, Boundary.two(5, "").along(0, 1));
    }

    @Says(at = "Promise 18", text = "Throws `IndexOutOfBoundsException` if there is no such mark")
    static void promise18Refused() {
        for (int mark : Boundary.WRONG_MARKS) {
            Boundary.refused(CHECK, "first " + mark, Check.INDEX, x -> x.along(mark, 0));
            Boundary.refused(CHECK, "second " + mark, Check.INDEX, x -> x.along(0, mark));
            Boundary.refused(CHECK, "both " + mark, Check.INDEX, x -> x.along(mark, mark));
        }
    }

    // ---- promises 23, 27, 30 and 34

    @Says(at = "Promise 23", text = "of edges with three sights or more")
    static void promise23ThreeSights() {
        SpiritWall x = Boundary.two(5, "error 0;mark c 8;sight a b fore 5;sight a b fore 900;");
        CHECK.due("two", NONE, x.outlier());
        x.addSight(0, 1, 0, 5, 20);
        CHECK.due("three", 1, x.outlier());
        x.addSight(0, 2, 0, 9999, 20);
        x.addSight(2, 0, 0, 9999, 20);
        CHECK.due("not by an edge of two", 1, x.outlier());
        x.strike(0, true);
        CHECK.due("three, one struck out", NONE, x.outlier());
    }

    @Says(at = "Promise 23", text = "whose rise differs most (perhaps by 0) from that of its edge in the same direction")
    static void promise23PerhapsByNought() {
        SpiritWall x = Boundary.two(5, "error 0;sight b a fore -5;sight a b fore 5;sight b a fore -5;");
        CHECK.due("by 0", 0, x.outlier());
        x.addSight(1, 0, 0, -7, 20);
        CHECK.due("from the greater mark", 3, x.outlier());
        x = Boundary.two(99999, "warm 99;length 9999;error -999;");
        for (int s = 0; s < 39; s++) x.addSight(0, 1, 0, 9999, -40);
        x.addSight(1, 0, 0, 9999, -40);
        CHECK.due("forty sights", 39, x.outlier());
    }

    @Says(at = "Promise 23", text = "Returns number of the sight, the smallest one on a tie; NONE if there is no such edge")
    static void promise23None() {
        CHECK.due("nothing", NONE, new SpiritWall().outlier());
        CHECK.due("forty edges of one sight", NONE, Boundary.full().outlier());
        SpiritWall x = Boundary.two(5, "error 0;sight a b fore 0;sight a b fore 3;sight a b fore -3;");
        CHECK.due("tie", 1, x.outlier());
        x.strike(0, true);
        CHECK.due("struck out", NONE, x.outlier());
        x.addSight(1, 0, 0, 0, 20);
        CHECK.due("tie again", 1, x.outlier());
    }

    @Says(at = "Promise 27", text = "NONE if there is no such place")
    static void promise27NoSuchPlace() {
        SpiritWall x = Check.wall(Boundary.marks(12, 1));
        for (int m = 11; m > 0; m--) x.addSight(m, 0, 0, 0, 20);
        for (int i = 0; i < 11; i++) CHECK.due("place " + i, i + 1, x.neighbour(0, i));
        for (int i : new int[] {-1, 11, 12, LEAST, GREATEST}) CHECK.due("place " + i, NONE, x.neighbour(0, i));
        CHECK.due("of the last", "0 -1 -1", x.neighbour(11, 0) + " " + x.neighbour(11, 1) + " " + x.neighbour(11, -1));
        x.strike(0, true);
        CHECK.due("struck out", "-1 -1", x.neighbour(11, 0) + " " + x.neighbour(0, 10));
        CHECK.due("without sights", NONE, Check.wall("mark a 5;").neighbour(0, 0));
        for (int i : new int[] {-1, 2, LEAST, GREATEST}) {
            Boundary.unchanged(CHECK, "busy " + i, NONE, Boundary::busy, y -> y.neighbour(0, i));
        }
    }

    @Says(at = "Promise 27", text = "Throws `IndexOutOfBoundsException` if there is no such mark")
    static void promise27Refused() {
        for (int mark : Boundary.WRONG_MARKS) {
            Boundary.refused(CHECK, "mark " + mark, Check.INDEX, x -> x.neighbour(mark, 0));
            Boundary.refused(CHECK, "mark and place " + mark, Check.INDEX, x -> x.neighbour(mark, -1));
        }
    }

    @Says(at = "Promise 30", text = "Returns the mean; 0.0 without such sights")
    static void promise30None() {
        CHECK.due("nothing", 0.0, new SpiritWall().meanSwings());
        CHECK.due("no sights", 0.0, Boundary.two(5, "").meanSwings());
        SpiritWall x = Boundary.two(5, "sight a b fore 1;");
        CHECK.due("one", 1.0, x.meanSwings());
        x.strike(0, true);
        CHECK.due("struck out", 0.0, x.meanSwings());
    }

    @Says(at = "Promise 30", text = "their sum divided by the number of these sights, both converted to double")
    static void promise30LeastAndGreatest() {
        SpiritWall x = Boundary.two(99999, "length 1;");
        for (int s = 0; s < 40; s++) x.addSight(s % 2, 1 - s % 2, 0, 0, 20);
        CHECK.due("greatest", 99999.0, x.meanSwings());
        x.set(0, 9999);
        CHECK.due("least with them", 11.0, x.meanSwings());
        x = Check.wall("mark a 0;mark b 1000;mark c 3000;sight a b fore 1;sight a b fore 1;sight b c fore 1;");
        CHECK.due("four thirds", 4.0 / 3.0, x.meanSwings());
        x.set(0, 999);
        CHECK.due("seven thirds", 7.0 / 3.0, x.meanSwings());
    }

    @Says(at = "Promise 34", text = "Throws `IllegalArgumentException` if length is out of range")
    static void promise34Refused() {
        for (int length : new int[] {0, -1, 10000, LEAST, GREATEST}) {
            Boundary.refused(CHECK, "length " + length, Check.ARGUMENT, x -> x.errorWith(length));
            Boundary.refused(CHECK, "length " + length + " of nothing", Check.ARGUMENT, SpiritWall::new, x -> x.errorWith(length));
        }
    }

    @Says(at = "Promise 34", text = "Returns the error, found, also if one was told")
    static void promise34LeastAndGreatest() {
        CHECK.due("nothing", "0 0", new SpiritWall().errorWith(1) + " " + new SpiritWall().errorWith(9999));
        CHECK.due("nothing, told", 0, Check.wall("error 7;").errorWith(1));
        SpiritWall x = Boundary.two(99999, "length 2;error -999;sight a b fore 10;sight a b back 0;");
        CHECK.due("least", 5, x.errorWith(1));
        CHECK.due("even", 0, x.errorWith(2));
        CHECK.due("greatest", 5, x.errorWith(9999));
        CHECK.due("still told", "-999 2", x.levelError() + " " + x.setting(0));
        Boundary.unchanged(CHECK, "least of the busy one", 0, Boundary::busy, y -> y.errorWith(1));
        Boundary.unchanged(CHECK, "greatest of the busy one", 0, Boundary::busy, y -> y.errorWith(9999));
    }
}
