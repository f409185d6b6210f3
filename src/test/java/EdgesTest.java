/** Promises 7 to 10, 12 to 18, 23, 27 and 30: marks, sights, the error and the edges. */
public final class EdgesTest {
    private static final Check CHECK = new Check("EdgesTest");
    private static final int NONE = SpiritWall.NONE;
    private static final int NO_HEIGHT = SpiritWall.NO_HEIGHT;
    /** Here the error is found to be 4, the rises are 50 (a b), 20 (b c) and 71 (a c), and d stands alone. */
    private static final String BASE = "mark a 0 at 100; mark b 1500; mark c 2500; mark d 9000; sight a b fore 50;"
            + "sight b c fore 24; sight c b fore -16; sight a c fore 75; sight c a back -75;";

    public static void main(String[] args) {
        promise7();
        promise8();
        promise9();
        promise9Median();
        promise10();
        promise12();
        promises13And14();
        promise15();
        promise15Rounding();
        promise16();
        promise17();
        promise18();
        promise23();
        promise27();
        promise30();
        CHECK.end();
    }

    private static void promise7() {
        SpiritWall x = Check.wall(BASE);
        int[] due = {4, 1, 5, 0, 3, 2, 1, 1, 1, 0, 2};
        for (int what = 0; what < due.length; what++) CHECK.due("7 count " + what, due[what], x.count(what));
        CHECK.due("7 below", NONE, x.count(-1));
        CHECK.due("7 above", NONE, x.count(11));
        x.strike(0, true);
        x.level();
        x.set(3, 0);
        int[] later = {4, 1, 5, 1, 2, 2, 0, 0, 3, 3, 2};
        for (int what = 0; what < later.length; what++) CHECK.due("7 count later " + what, later[what], x.count(what));
        x.strike(3, true);
        x.strike(4, true);
        CHECK.due("7 parts", 3, x.count(10));
        x.fix(3, 1);
        CHECK.due("7 benches", 2, x.count(1));
        CHECK.due("7 heights", 4, x.count(8));
    }

    private static void promise8() {
        SpiritWall x = Check.wall("length 77; bend 3; warm -4; limit 55; error 0;");
        int[] due = {77, 3, -4, 55, 1};
        for (int what = 0; what < 5; what++) CHECK.due("8 setting " + what, due[what], x.setting(what));
        CHECK.due("8 below", NONE, x.setting(-1));
        CHECK.due("8 above", NONE, x.setting(5));
        x.findError();
        CHECK.due("8 found", 0, x.setting(4));
    }

    private static void promise9() {
        SpiritWall x = Check.wall(BASE);
        CHECK.due("9 found", 4, x.levelError());
        x.strike(2, true);
        CHECK.due("9 without sights against", 0, x.levelError());
        x.addSight(2, 1, 1, -100, 20);
        CHECK.due("9 both with", 0, x.levelError());
        x.strike(2, false);
        CHECK.due("9 mean of with", (62 - 16) / 2, x.levelError());
        x.set(0, 500);
        CHECK.due("9 even swings", 0, x.levelError());
        x = Check.wall(BASE + "error -7;");
        CHECK.due("9 told", -7, x.levelError());
    }

    private static void promise9Median() {
        String marks = "mark a 0; mark b 1; mark c 2; mark d 3; mark e 4;";
        String one = "sight a b fore 10; sight a b back 0;";
        String two = "sight b c fore -20; sight b c back 0;";
        String three = "sight c d fore 90; sight c d back 1;";
        String four = "sight d e fore 4; sight d e back 0;";
        CHECK.due("9 one", 5, Check.wall(marks + one).levelError());
        CHECK.due("9 smaller of two", -10, Check.wall(marks + one + two).levelError());
        CHECK.due("9 middle of three", 5, Check.wall(marks + one + two + three).levelError());
        CHECK.due("9 smaller in the middle of four", 2, Check.wall(marks + one + two + three + four).levelError());
        CHECK.due("9 twice the same", 5, Check.wall(marks + one + three + "sight d e fore 10; sight d e back 0;").levelError());
    }

    private static void promise10() {
        SpiritWall x = Check.wall(BASE + "error 9;");
        CHECK.due("10 edge", 4, x.estimate(1, 2));
        CHECK.due("10 other order", 4, x.estimate(2, 1));
        CHECK.due("10 all with", NO_HEIGHT, x.estimate(0, 2));
        CHECK.due("10 even swings", NO_HEIGHT, x.estimate(0, 1));
        CHECK.due("10 no edge", NO_HEIGHT, x.estimate(0, 3));
        CHECK.due("10 same mark", NO_HEIGHT, x.estimate(1, 1));
        CHECK.dueThrow("10 below", Check.INDEX, () -> x.estimate(-1, 0));
        CHECK.dueThrow("10 above", Check.INDEX, () -> x.estimate(0, 4));
        SpiritWall y = Check.wall("mark a 0; mark b 10; sight a b fore -3; sight a b fore 0; sight a b back 2; sight a b back 3;");
        CHECK.due("10 means and half rounded down", -2, y.estimate(0, 1));
        y = Check.wall("mark a 0; mark b 10; sight b a back 3; sight b a back 0; sight b a fore -3;");
        CHECK.due("10 from the greater mark", -3, y.estimate(0, 1));
        y.addSight(0, 1, 1, -100, 20);
        CHECK.due("10 against both ways", (-2 - (-49)) / 2, y.estimate(0, 1));
        y = Check.wall("bend 99; warm 10; mark a 0; mark b 99999; length 9999; sight a b fore 0 heat 30; sight a b back 0;");
        CHECK.due("10 pure readings", (-9899 - 99 + 9899 - 1) / 2, y.estimate(0, 1));
    }

    private static void promise12() {
        SpiritWall x = Check.wall(BASE);
        int[][] due = {{0, 1, 2, 3, 0}, {1500, 0, 2, 3, 0}, {2500, 0, 2, 4, 0}, {9000, 0, 0, 0, 3}};
        for (int m = 0; m < 4; m++) {
            for (int what = 0; what < 5; what++) CHECK.due("12 mark " + m + " " + what, due[m][what], x.mark(m, what));
        }
        x.strike(0, true);
        CHECK.due("12 edges without a struck sight", 1, x.mark(1, 2));
        CHECK.due("12 sights without a struck one", 2, x.mark(1, 3));
        x.strike(3, true);
        x.strike(4, true);
        CHECK.due("12 part of b", 1, x.mark(1, 4));
        CHECK.due("12 part of c", 1, x.mark(2, 4));
        CHECK.dueThrow("12 mark below", Check.INDEX, () -> x.mark(-1, 0));
        CHECK.dueThrow("12 mark above", Check.INDEX, () -> x.mark(4, 9));
        CHECK.dueThrow("12 what below", Check.ARGUMENT, () -> x.mark(0, -1));
        CHECK.dueThrow("12 what above", Check.ARGUMENT, () -> x.mark(0, 5));
    }

    private static void promises13And14() {
        SpiritWall x = Check.wall(BASE);
        CHECK.due("13 bench", 100, x.height(0));
        CHECK.due("13 none", NO_HEIGHT, x.height(1));
        x.level();
        CHECK.due("13 levelled", 150, x.height(1));
        CHECK.due("13 still none", NO_HEIGHT, x.height(3));
        CHECK.dueThrow("13 below", Check.INDEX, () -> x.height(-1));
        CHECK.dueThrow("13 above", Check.INDEX, () -> x.height(4));
        CHECK.due("14 bench", 0, x.whyNone(0));
        CHECK.due("14 joined", 0, x.whyNone(1));
        CHECK.due("14 no sights", 1, x.whyNone(3));
        x.addSight(3, 1, 0, 0, 20);
        CHECK.due("14 joined now", 0, x.whyNone(3));
        x.strike(5, true);
        CHECK.due("14 all struck out", 2, x.whyNone(3));
        x.fix(3, 0);
        CHECK.due("14 a bench always", 0, x.whyNone(3));
        x.free(3);
        x.free(0);
        CHECK.due("14 no bench", 3, x.whyNone(0));
        CHECK.due("14 no bench joined", 3, x.whyNone(2));
        CHECK.due("14 heights do not count", 150, x.height(1));
        CHECK.dueThrow("14 below", Check.INDEX, () -> x.whyNone(-1));
        CHECK.dueThrow("14 above", Check.INDEX, () -> x.whyNone(4));
    }

    private static void promise15() {
        SpiritWall x = Check.wall(BASE);
        int[][] due = {{0, 1, 0, 50, 20, 0, 2, 0, 0, 50}, {1, 2, 0, 24, 20, 0, 1, 0, 0, 20}, {2, 1, 0, -16, 20, 0, 1, 0, 0, -20},
            {0, 2, 0, 75, 20, 0, 3, 0, 0, 71}, {2, 0, 1, -75, 20, 0, 3, 0, 0, -71}};
        for (int s = 0; s < 5; s++) {
            for (int what = 0; what < 10; what++) CHECK.due("15 sight " + s + " " + what, due[s][what], x.sight(s, what));
        }
        x.strike(3, true);
        CHECK.due("15 struck out", 1, x.sight(3, 5));
        CHECK.due("15 rise of one struck out", 71, x.sight(3, 9));
        x.tellError(-5);
        CHECK.due("15 rise of one struck out, told error", 80, x.sight(3, 9));
        CHECK.due("15 back", -80, x.sight(4, 9));
        CHECK.dueThrow("15 below", Check.INDEX, () -> x.sight(-1, 99));
        CHECK.dueThrow("15 above", Check.INDEX, () -> x.sight(5, 0));
        CHECK.dueThrow("15 what below", Check.ARGUMENT, () -> x.sight(0, -1));
        CHECK.dueThrow("15 what above", Check.ARGUMENT, () -> x.sight(0, 10));
    }

    private static void promise15Rounding() {
        SpiritWall x = Check.wall("bend 99; warm -99; mark a 99999; mark b 0; mark c 1; error 999; sight a b fore 9999 heat 60;"
                + "sight b c fore 0 heat 21; sight a b back -9999 heat -40; length 9999; sight c b fore 0 heat 19;");
        CHECK.due("15 greatest bend", 9899, x.sight(0, 7));
        CHECK.due("15 least warmth", -3960, x.sight(0, 8));
        CHECK.due("15 greatest warmth", 5939, x.sight(2, 8));
        CHECK.due("15 warmth rounded down", -1, x.sight(1, 8));
        CHECK.due("15 warmth rounded down above 0", 0, x.sight(3, 8));
        CHECK.due("15 swings", 11, x.sight(0, 6));
        CHECK.due("15 rise", 9999 - 9899 + 3960 - 999, x.sight(0, 9));
        CHECK.due("15 rise of back", -9999 - 9899 - 5939 + 999, x.sight(2, 9));
        CHECK.due("15 small rise", 1 - 999, x.sight(1, 9));
        x.set(0, 1);
        CHECK.due("15 many swings", 99999, x.sight(0, 6));
        x.set(0, 9091);
        CHECK.due("15 swings rounded up", 11, x.sight(0, 6));
        x.tellError(-999);
        x.set(0, 9999);
        x.set(1, 0);
        x.set(2, 0);
        CHECK.due("15 without bend and warmth", 9999 + 999, x.sight(0, 9));
    }

    private static void promise16() {
        SpiritWall x = Check.wall(BASE);
        CHECK.due("16 a b", "50 -50", x.rise(0, 1) + " " + x.rise(1, 0));
        CHECK.due("16 b c", "20 -20", x.rise(1, 2) + " " + x.rise(2, 1));
        CHECK.due("16 a c", "71 -71", x.rise(0, 2) + " " + x.rise(2, 0));
        CHECK.due("16 no edge", NO_HEIGHT, x.rise(0, 3));
        CHECK.due("16 same mark", NO_HEIGHT, x.rise(1, 1));
        CHECK.dueThrow("16 below", Check.INDEX, () -> x.rise(0, -1));
        CHECK.dueThrow("16 above", Check.INDEX, () -> x.rise(4, 0));
        SpiritWall y = Check.wall("mark a 0; mark b 2000; sight a b fore -1; sight a b back 0; sight b a fore 0;");
        CHECK.due("16 rounded down from the smaller mark", -1, y.rise(0, 1));
        CHECK.due("16 minus that", 1, y.rise(1, 0));
        y.strike(0, true);
        CHECK.due("16 without the struck one", 0, y.rise(0, 1));
        y.strike(1, true);
        y.strike(2, true);
        CHECK.due("16 all struck out", NO_HEIGHT, y.rise(0, 1));
    }

    private static void promise17() {
        SpiritWall x = Check.wall(BASE);
        int[][] due = {{0, 1, 1, 1500, 666, 1, 1, 0, 0}, {1, 2, 2, 1000, 2000, 1, 1, 0, 0}, {0, 2, 2, 2500, 800, 0, 1, 0, 0}};
        for (int[] row : due) {
            for (int what = 0; what < 7; what++) {
                CHECK.due("17 edge " + row[0] + row[1] + " " + what, row[what + 2], x.edge(row[0], row[1], what));
                CHECK.due("17 edge " + row[1] + row[0] + " " + what, row[what + 2], x.edge(row[1], row[0], what));
            }
        }
        x.set(3, 0);
        CHECK.due("17 loops that do not close", 1, x.edge(1, 0, 5));
        x.addSight(1, 0, 1, -70, 20);
        CHECK.due("17 spread", 20, x.edge(0, 1, 6));
        x.addSight(0, 1, 1, -30, 20);
        CHECK.due("17 spread below 0", 100, x.edge(1, 0, 6));
        CHECK.due("17 weight of three", 3 * 666, x.edge(1, 0, 2));
        CHECK.due("17 none", NONE, x.edge(0, 3, 0));
        CHECK.due("17 same mark", NONE, x.edge(2, 2, 6));
        CHECK.dueThrow("17 below", Check.INDEX, () -> x.edge(-1, 0, 7));
        CHECK.dueThrow("17 above", Check.INDEX, () -> x.edge(0, 4, -1));
        CHECK.dueThrow("17 what below", Check.ARGUMENT, () -> x.edge(0, 1, -1));
        CHECK.dueThrow("17 what above, no edge", Check.ARGUMENT, () -> x.edge(0, 3, 7));
        int[] readings = {5, -3, 4, 10, 0};
        int[] spreads = {0, 8, 8, 13, 13};
        SpiritWall z = Check.wall("mark a 0; mark b 2000; mark c 1; sight b c fore 500;");
        for (int i = 0; i < 5; i++) {
            z.addSight(0, 1, 0, readings[i], 20);
            CHECK.due("17 spread of " + (i + 1), spreads[i], z.edge(0, 1, 6));
        }
        SpiritWall y = Check.wall("mark a 0; mark b 99999; sight b a fore -5;");
        CHECK.due("17 least weight", 10, y.edge(0, 1, 2));
        CHECK.due("17 spread of one", 0, y.edge(0, 1, 6));
    }

    private static void promise18() {
        SpiritWall x = Check.wall(BASE);
        CHECK.due("18 along two edges", 70, x.along(0, 2));
        CHECK.due("18 back", -70, x.along(2, 0));
        CHECK.due("18 one edge", -20, x.along(2, 1));
        CHECK.due("18 same", 0, x.along(3, 3));
        CHECK.due("18 not joined", NO_HEIGHT, x.along(0, 3));
        CHECK.dueThrow("18 below", Check.INDEX, () -> x.along(-1, 0));
        CHECK.dueThrow("18 above", Check.INDEX, () -> x.along(0, 4));
        SpiritWall y = Check.wall("mark a 0; mark b 2000; mark c 4000; mark d 6000; sight d b fore 1; sight a c fore 10;"
                + "sight b c fore 100; sight a d fore 5000; error 0;");
        CHECK.due("18 a to d", 10 - 100 - 1, y.along(0, 3));
        CHECK.due("18 d to a", 91, y.along(3, 0));
        y = Check.wall("error 0; mark a 0; mark b 6000; mark c 1000; mark d 3000; mark e 10000; sight a c fore 1;"
                + "sight b d fore 10; sight c d fore 100; sight e b fore 1000; sight e a fore 5;");
        int[][] due = {{0, 91, 1, 101, -909}, {-91, 0, -90, 10, -1000}, {-1, 90, 0, 100, -910}, {-101, -10, -100, 0, -1010},
            {909, 1000, 910, 1010, 0}};
        for (int a = 0; a < 5; a++) {
            for (int b = 0; b < 5; b++) CHECK.due("18 along " + a + " " + b, due[a][b], y.along(a, b));
        }
        CHECK.due("18 the loop on it", "0 4 1 3 2", y.loopMark(0, 0) + " " + y.loopMark(0, 1) + " " + y.loopMark(0, 2) + " "
                + y.loopMark(0, 3) + " " + y.loopMark(0, 4));
    }

    private static void promise23() {
        SpiritWall x = Check.wall("mark a 0; mark b 2000; mark c 4000; sight a b fore 5; sight b a fore -5; sight b c fore 9000;"
                + "sight b c fore 0;");
        CHECK.due("23 too few sights", NONE, x.outlier());
        x.addSight(0, 1, 1, 5, 20);
        CHECK.due("23 differs by 0", 0, x.outlier());
        x.addSight(1, 0, 0, 5, 20);
        CHECK.due("23 differs most", 5, x.outlier());
        x.swap(0, -5);
        CHECK.due("23 smallest on a tie", 0, x.outlier());
        x.strike(4, true);
        CHECK.due("23 of three", 1, x.outlier());
        x.strike(0, true);
        CHECK.due("23 struck out", NONE, x.outlier());
    }

    private static void promise27() {
        SpiritWall x = Check.wall(BASE);
        CHECK.due("27 of b", "0 2 -1", x.neighbour(1, 0) + " " + x.neighbour(1, 1) + " " + x.neighbour(1, 2));
        CHECK.due("27 of c", "0 1 -1", x.neighbour(2, 0) + " " + x.neighbour(2, 1) + " " + x.neighbour(2, 2));
        CHECK.due("27 of d", NONE, x.neighbour(3, 0));
        CHECK.due("27 place below", NONE, x.neighbour(0, -1));
        CHECK.due("27 place far above", NONE, x.neighbour(0, Integer.MAX_VALUE));
        CHECK.dueThrow("27 below", Check.INDEX, () -> x.neighbour(-1, 0));
        CHECK.dueThrow("27 above", Check.INDEX, () -> x.neighbour(4, 0));
    }

    private static void promise30() {
        SpiritWall x = Check.wall(BASE);
        CHECK.due("30 mean", 10.0 / 5.0, x.meanSwings());
        x.strike(4, true);
        CHECK.due("30 without the struck one", 7.0 / 4.0, x.meanSwings());
        x.set(0, 1500);
        CHECK.due("30 other length", 5.0 / 4.0, x.meanSwings());
        for (int s = 0; s < 4; s++) x.strike(s, true);
        CHECK.due("30 none", 0.0, x.meanSwings());
    }
}
