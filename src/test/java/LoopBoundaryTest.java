/** The boundaries of term 3 and of promises 19 to 22, 28, 29, 31 to 33 and 37: the forest and the loops. */
public final class LoopBoundaryTest {
    private static final Check CHECK = new Check("LoopBoundaryTest");
    private static final int NONE = SpiritWall.NONE;
    private static final int LEAST = Boundary.LEAST;
    private static final int GREATEST = Boundary.GREATEST;
    private static final int[] WRONG_LOOPS = {-1, 1, 40, LEAST, GREATEST};

    public static void main(String[] args) throws IllegalAccessException {
        Boundary.runAll(CHECK, LoopBoundaryTest.class);
    }

    /** The way there and back between a and c is 196000; the loop a/c/b has this misclosure. */
    private static SpiritWall triangle(String settings, int misclosure) {
        SpiritWall x = Check.wall("mark a 0;mark b 1000;mark c 98000;error 0;" + settings);
        int rest = misclosure;
        int[][] sights = {{2, 1}, {1, 0}, {0, 2}};
        for (int[] sight : sights) {
            int reading = Math.max(-9999, Math.min(9999, rest));
            x.addSight(sight[0], sight[1], 0, reading, 20);
            rest -= reading;
        }
        return x;
    }

    private static String loop(SpiritWall x, int loop) {
        StringBuilder text = new StringBuilder();
        for (int what = 0; what < 6; what++) text.append(what > 0 ? " " : "").append(x.loop(loop, what));
        text.append(" :");
        for (int i = 0; i < 14 && x.loopMark(loop, i) != NONE; i++) text.append(' ').append(x.loopMark(loop, i));
        return text.toString();
    }

    /** Twelve marks, each far from the next, and a ring of sights that fall as deep as can be. */
    private static SpiritWall deepRing(String settings) {
        StringBuilder text = new StringBuilder(settings);
        for (int m = 0; m < 12; m++) {
            text.append("mark ").append(Boundary.name(m)).append(' ').append(m % 2 == 0 ? m : 99999 - m).append(';');
        }
        SpiritWall x = Check.wall(text.toString());
        for (int m = 0; m < 12; m++) x.addSight(m, (m + 1) % 12, 0, -9999, -40);
        return x;
    }

    private static int deepMisclosure() {
        long sum = 0;
        for (int m = 0; m < 12; m++) {
            long d = deepDistance(m);
            sum += -9999 - 99 * d * d / 100000000 - 5940 * d / 100000 - 999;
        }
        return (int) sum;
    }

    private static int deepDistance(int mark) {
        int next = (mark + 1) % 12;
        int even = mark % 2 == 0 ? mark : next;
        int odd = mark % 2 == 0 ? next : mark;
        return 99999 - odd - even;
    }

    private static int deepWay() {
        int way = 0;
        for (int m = 0; m < 12; m++) way += deepDistance(m);
        return way;
    }

    // ---- term 3

    @Says(at = "Term 3", text = "by distance, the shortest first, of the same distance by the smaller mark number, then by the greater one")
    static void term3ByTheGreaterOne() {
        SpiritWall x = Check.wall("mark a 50;mark b 0;mark c 100;mark d 40;mark e 60;error 0;sight a c fore 1;sight a b fore 2;"
                + "sight b d fore 4;sight d e fore 8;sight e c fore 16;");
        CHECK.due("of a b and a c, both 50, a b is taken", "1 0", x.edge(0, 1, 3) + " " + x.edge(0, 2, 3));
        CHECK.due("loop", "0 2 5 200 -29 0 : 0 2 4 3 1", loop(x, 0));
    }

    @Says(at = "Term 3", text = "of the same distance by the smaller mark number")
    static void term3BySmallerMark() {
        SpiritWall x = Check.wall("mark a 0;mark b 20;mark c 40;mark d 60;error 0;sight b d fore 1;sight a c fore 2;sight c d fore 4;"
                + "sight a b fore 8;");
        CHECK.due("of a c and b d, both 40, a c is taken", "1 0", x.edge(0, 2, 3) + " " + x.edge(1, 3, 3));
        CHECK.due("loop", "1 3 4 120 3 1 : 1 3 2 0", loop(x, 0));
        x = Check.wall("mark a 0;mark b 20;mark c 41;mark d 60;error 0;sight b d fore 1;sight a c fore 2;sight c d fore 4;sight a b fore 8;");
        CHECK.due("a c is longer by one", "0 1", x.edge(0, 2, 3) + " " + x.edge(1, 3, 3));
        x = Check.wall("mark a 0;mark b 20;mark c 39;mark d 60;error 0;sight b d fore 1;sight a c fore 2;sight c d fore 4;sight a b fore 8;");
        CHECK.due("a c is shorter by one", "1 0", x.edge(0, 2, 3) + " " + x.edge(1, 3, 3));
    }

    @Says(at = "Term 3", text = "an edge is taken if its two marks are not joined yet by edges that were taken")
    static void term3NotJoinedYet() {
        CHECK.due("nothing", "0 0", new SpiritWall().count(5) + " " + new SpiritWall().count(6));
        SpiritWall x = Boundary.two(5, "sight a b fore 1;");
        CHECK.due("one edge", "1 0", x.count(5) + " " + x.count(6));
        x.addSight(1, 0, 0, 1, 20);
        CHECK.due("another sight of it", "1 0", x.count(5) + " " + x.count(6));
        x = Boundary.full();
        int taken = 0;
        for (int a = 0; a < 12; a++) {
            for (int b = a + 1; b < 12; b++) taken += x.edge(a, b, 3) == 1 ? 1 : 0;
        }
        CHECK.due("eleven of forty", 11, taken);
    }

    @Says(at = "Term 3", text = "Each other edge tells a loop; loops are numbered from 0 by the smaller mark number of this edge, then by the"
            + " greater one")
    static void term3ManyLoops() {
        SpiritWall x = Check.wall("error 0;" + Boundary.marks(10, 1));
        for (int apart = 9; apart > 0; apart--) {
            for (int m = 9 - apart; m >= 0; m--) {
                if (apart != 5) x.addSight(m + apart, m, 0, 0, 20);
            }
        }
        CHECK.due("loops of forty edges", "40 9 31", x.count(4) + " " + x.count(5) + " " + x.count(6));
        int loop = 0;
        for (int a = 0; a < 10; a++) {
            for (int b = a + 2; b < 10; b++) {
                if (b - a == 5) continue;
                CHECK.due("loop " + loop, a + " " + b + " " + (b - a + 1), x.loop(loop, 0) + " " + x.loop(loop, 1) + " " + x.loop(loop, 2));
                loop++;
            }
        }
        CHECK.due("no loop behind", Check.INDEX, Boundary.answer(x, y -> y.loop(31, 0)));
    }

    @Says(at = "Term 3", text = "A loop goes from the smaller mark along its edge to the greater one, and from there along the forest back")
    static void term3LeastAndGreatestLoop() {
        CHECK.due("three edges", "0 2 3 196000 7 1 : 0 2 1", loop(triangle("limit 1;", 7), 0));
        SpiritWall x = deepRing("error 0;");
        String marks = " : 0 1 2 3 4 5 6 7 8 9 10 11";
        CHECK.due("twelve edges", "0 1 12 " + deepWay() + " " + 12 * -9999 + " 0" + marks, loop(x, 0));
        x.strike(0, true);
        CHECK.due("none without one of them", 0, x.count(6));
    }

    @Says(at = "Term 3", text = "Its misclosure is the sum of the rises in this direction, its way the sum of the distances")
    static void term3GreatestMisclosure() {
        SpiritWall x = deepRing("bend 99;warm -99;length 9100;error 999;limit 999;");
        CHECK.due("way", deepWay(), x.loop(0, 3));
        CHECK.due("misclosure", deepMisclosure(), x.loop(0, 4));
        CHECK.due("as deep as can be", true, deepMisclosure() < 12 * -26800);
        CHECK.due("does not close", "0 -1", x.loop(0, 5) + " " + x.leastLimit());
        CHECK.due("along the forest", -deepMisclosure() + x.rise(0, 1), x.along(0, 1));
    }

    @Says(at = "Term 3", text = "It closes if 1000 times the square of the misclosure is not greater than the way times the square of LIMIT")
    static void term3Closes() {
        int[][] due = {{13986, 999, 1}, {13987, 999, 0}, {-13986, 999, 1}, {-13987, 999, 0}, {13986, 998, 0}, {0, 0, 1}, {1, 0, 0}, {-1, 0, 0},
            {14, 1, 1}, {15, 1, 0}, {-14, 1, 1}, {-15, 1, 0}, {140, 10, 1}, {141, 10, 0}, {29997, 999, 0}, {-29997, 999, 0}};
        for (int[] row : due) {
            SpiritWall x = triangle("limit " + row[1] + ";", row[0]);
            CHECK.due(row[0] + " with " + row[1], row[0] + " " + row[2], x.loop(0, 4) + " " + x.loop(0, 5));
        }
        SpiritWall x = triangle("limit 999;", 13986);
        CHECK.due("the way of the equal one", 1000L * 13986 * 13986, (long) x.loop(0, 3) * 999 * 999);
    }

    // ---- promises 19 to 22

    @Says(at = "Promise 19", text = "Throws `IndexOutOfBoundsException` if there is no such loop")
    static void promise19Refused() {
        for (int loop : WRONG_LOOPS) {
            Boundary.refused(CHECK, "loop " + loop, Check.INDEX, Boundary::busy, x -> x.loop(loop, 0));
            Boundary.refused(CHECK, "loop and what " + loop, Check.INDEX, Boundary::busy, x -> x.loop(loop, 6));
        }
        Boundary.refused(CHECK, "no loops", Check.INDEX, SpiritWall::new, x -> x.loop(0, 0));
        Boundary.refused(CHECK, "no loops and what", Check.INDEX, () -> Boundary.two(5, "sight a b fore 1;"), x -> x.loop(0, 6));
    }

    @Says(at = "Promise 19", text = "Throws `IllegalArgumentException` if what is out of range")
    static void promise19What() {
        for (int what : new int[] {-1, 6, LEAST, GREATEST}) {
            Boundary.refused(CHECK, "what " + what, Check.ARGUMENT, Boundary::busy, x -> x.loop(0, what));
        }
        CHECK.due("the busy one has one loop", 1, Boundary.busy().count(6));
    }

    @Says(at = "Promise 19", text = "0 the smaller mark of the edge that tells it, 1 the greater one, 2 its edges, 3 its way, 4 its misclosure, 5"
            + " 1 if it closes, otherwise 0")
    static void promise19FirstAndLast() {
        SpiritWall x = Boundary.full();
        CHECK.due("first", "0 2 3 8 0 1 : 0 2 1", loop(x, 0));
        CHECK.due("last", "9 11 3 8 0 1 : 9 11 10", loop(x, 28));
        CHECK.due("long one", "0 5 6 20 0 1 : 0 5 4 3 2 1", loop(x, 3));
    }

    @Says(at = "Promise 20", text = "NONE if there is no such place")
    static void promise20NoSuchPlace() {
        SpiritWall x = Boundary.full();
        for (int index : new int[] {-1, 3, 11, 12, LEAST, GREATEST}) CHECK.due("place " + index, NONE, x.loopMark(0, index));
        for (int index : new int[] {-1, 3, LEAST, GREATEST}) CHECK.due("place " + index + " of the last", NONE, x.loopMark(28, index));
        CHECK.due("the last place", 1, x.loopMark(0, 2));
        SpiritWall ring = deepRing("error 0;");
        CHECK.due("of twelve", "0 11 -1 -1", ring.loopMark(0, 0) + " " + ring.loopMark(0, 11) + " " + ring.loopMark(0, 12) + " "
                + ring.loopMark(0, -1));
        Boundary.unchanged(CHECK, "busy", NONE, Boundary::busy, y -> y.loopMark(0, 3));
    }

    @Says(at = "Promise 20", text = "Throws `IndexOutOfBoundsException` if there is no such loop")
    static void promise20Refused() {
        for (int loop : WRONG_LOOPS) {
            Boundary.refused(CHECK, "loop " + loop, Check.INDEX, Boundary::busy, x -> x.loopMark(loop, 0));
            Boundary.refused(CHECK, "loop and place " + loop, Check.INDEX, Boundary::busy, x -> x.loopMark(loop, -1));
        }
        Boundary.refused(CHECK, "no loops", Check.INDEX, SpiritWall::new, x -> x.loopMark(0, 0));
    }

    /** Two triangles side by side; their ways are 2 times the distances, their misclosures are the readings. */
    private static SpiritWall triangles(int distance, int reading, int other, int otherReading) {
        SpiritWall x = Check.wall("error 0;mark a 0;mark b 1;mark c " + distance + ";mark d 99999;mark e 99998;mark f " + (99999 - other) + ";"
                + "sight a b fore 0;sight b c fore 0;sight a c fore " + reading + ";"
                + "sight d e fore 0;sight e f fore 0;sight d f fore " + otherReading + ";");
        CHECK.due("misclosures", reading + " " + otherReading, x.loop(0, 4) + " " + x.loop(1, 4));
        CHECK.due("ways", 2 * distance + " " + 2 * other, x.loop(0, 3) + " " + x.loop(1, 3));
        return x;
    }

    @Says(at = "Promise 21", text = "the greatest square of its misclosure divided by its way (exactly)")
    static void promise21Exactly() {
        CHECK.due("as one: 25 by 50, 36 by 72", 0, triangles(25, 5, 36, 6).worstLoop());
        CHECK.due("25 by 50, 36 by 70", 1, triangles(25, 5, 35, 6).worstLoop());
        CHECK.due("25 by 50, 36 by 74", 0, triangles(25, 5, 37, 6).worstLoop());
        CHECK.due("signs do not count", 1, triangles(25, 5, 35, -6).worstLoop());
        CHECK.due("9998 and 9999, the greater", 1, triangles(40000, 9998, 40008, 9999).worstLoop());
        CHECK.due("9998 and 9999, the smaller", 0, triangles(40000, 9998, 40009, 9999).worstLoop());
        CHECK.due("the products differ by 1", 1, triangles(89401, 300, 89998, 301).worstLoop());
        CHECK.due("all the way", 0, triangles(49000, -9999, 49001, 9999).worstLoop());
        CHECK.due("all the way, the other", 1, triangles(49001, -9999, 49000, 9999).worstLoop());
    }

    @Says(at = "Promise 21", text = "Returns number of the loop, the smallest one on a tie; NONE without loops")
    static void promise21None() {
        CHECK.due("nothing", NONE, new SpiritWall().worstLoop());
        CHECK.due("a tree", NONE, Boundary.two(5, "sight a b fore 1;").worstLoop());
        CHECK.due("all 0", 0, Boundary.full().worstLoop());
        CHECK.due("tie", 0, triangles(4900, 10, 4900, -10).worstLoop());
        CHECK.due("tie of 0", 0, triangles(4900, 0, 49000, 0).worstLoop());
    }

    @Says(at = "Promise 22", text = "Returns 12 times its smaller mark plus its greater one, the smallest such number on a tie; NONE if all loops"
            + " close")
    static void promise22LeastGreatestNone() {
        CHECK.due("nothing", NONE, new SpiritWall().suspect());
        CHECK.due("no loops", NONE, Boundary.two(5, "sight a b fore 1;").suspect());
        CHECK.due("29 loops that close", NONE, Boundary.full().suspect());
        CHECK.due("least", 1, triangle("limit 0;", 1).suspect());
        SpiritWall x = Check.wall("limit 0;error 0;" + Boundary.marks(12, 10));
        x.addSight(9, 10, 0, 0, 20);
        x.addSight(10, 11, 0, 0, 20);
        x.addSight(9, 11, 0, 1, 20);
        CHECK.due("tie of the last three", 12 * 9 + 10, x.suspect());
        x.addSight(8, 10, 0, 0, 20);
        x.addSight(8, 11, 0, 1, 20);
        CHECK.due("greatest", 12 * 10 + 11, x.suspect());
        x.strike(2, true);
        x.strike(4, true);
        CHECK.due("no loops any more", NONE, x.suspect());
    }

    @Says(at = "Promise 22", text = "the edge that is in the most loops that do not close, of several the one in the fewest loops that close")
    static void promise22FewestThatClose() {
        SpiritWall x = Check.wall("limit 0;error 0;" + Boundary.marks(4, 10) + "sight a b fore 0;sight b c fore 0;sight c d fore 0;"
                + "sight a c fore 1;sight b d fore 0;");
        CHECK.due("a b is in none that closes, b c is in one", 1, x.suspect());
        x.swap(3, 0);
        x.swap(4, 1);
        CHECK.due("b d", 12 + 3, x.suspect());
        x.swap(3, 1);
        CHECK.due("b c in two that do not close", 12 + 2, x.suspect());
    }

    // ---- promises 28, 29 and 31

    @Says(at = "Promise 28", text = "Counts the loops in which a mark is")
    static void promise28NoneAndAll() {
        CHECK.due("none", 0, Check.wall("mark a 5;").loopsOf(0));
        CHECK.due("a tree", 0, Boundary.two(5, "sight a b fore 1;").loopsOf(1));
        SpiritWall x = Boundary.full();
        CHECK.due("of 29, first and last", "4 3", x.loopsOf(0) + " " + x.loopsOf(11));
        int inside = 0;
        for (int a = 0; a < 12; a++) {
            for (int b = a + 2; b < 12 && b < a + 6; b++) inside += (b - a < 5 || a < 2) && a <= 5 && 5 <= b ? 1 : 0;
        }
        CHECK.due("of 29, in the middle", inside, x.loopsOf(5));
        SpiritWall ring = deepRing("error 0;");
        for (int m = 0; m < 12; m++) CHECK.due("mark " + m + " of a ring", 1, ring.loopsOf(m));
        for (int m = 0; m < 11; m++) x.strike(m, true);
        CHECK.due("another forest", 29 - 11, x.count(6));
    }

    @Says(at = "Promise 28", text = "Throws `IndexOutOfBoundsException` if there is no such mark")
    static void promise28Refused() {
        for (int mark : Boundary.WRONG_MARKS) Boundary.refused(CHECK, "mark " + mark, Check.INDEX, x -> x.loopsOf(mark));
        Boundary.refused(CHECK, "no marks", Check.INDEX, SpiritWall::new, x -> x.loopsOf(0));
    }

    @Says(at = "Promise 29", text = "Counts the edges that are in no loop")
    static void promise29NoneAndAll() {
        CHECK.due("nothing", 0, new SpiritWall().bridges());
        CHECK.due("no sights", 0, Boundary.two(5, "").bridges());
        SpiritWall x = Boundary.full();
        CHECK.due("forty edges in loops", 0, x.bridges());
        for (int s = 11; s < 40; s++) x.strike(s, true);
        CHECK.due("eleven edges in none", 11, x.bridges());
        x.strike(11, false);
        CHECK.due("one loop of three", 9, x.bridges());
        CHECK.due("a ring", 0, deepRing("error 0;").bridges());
        CHECK.due("loops that do not close count", 0, triangle("limit 0;", 1).bridges());
    }

    @Says(at = "Promise 31", text = "Returns the quotient; 1 without loops")
    static void promise31None() {
        CHECK.due("nothing", 1.0f, new SpiritWall().closedShare());
        CHECK.due("a tree", 1.0f, Boundary.two(5, "sight a b fore 1;").closedShare());
        CHECK.due("one that closes", 1.0f, triangle("limit 0;", 0).closedShare());
        CHECK.due("one that does not", 0.0f, triangle("limit 0;", 1).closedShare());
    }

    @Says(at = "Promise 31", text = "their number divided by that of all loops, both converted to float")
    static void promise31InFloat() {
        SpiritWall x = Boundary.full();
        x.set(3, 0);
        CHECK.due("all of 29", 1.0f, x.closedShare());
        x.swap(39, 9);
        CHECK.due("28 of 29", 28.0f / 29.0f, x.closedShare());
        for (int s = 12; s < 39; s++) x.swap(s, 9);
        CHECK.due("one of 29", 1.0f / 29.0f, x.closedShare());
        x.swap(11, 9);
        CHECK.due("none of 29", 0.0f, x.closedShare());
    }

    // ---- what would be

    @Says(at = "Promise 32", text = "Tells how many loops would close if a sight was struck out, or not any more if it is")
    static void promise32NoneAndAll() {
        CHECK.due("no loops with it", 0, Boundary.two(5, "sight a b fore 1;").closedIf(0));
        SpiritWall x = Boundary.full();
        CHECK.due("28 without a loop", 28, x.closedIf(39));
        CHECK.due("28 with another forest", 28, x.closedIf(0));
        x.strike(39, true);
        CHECK.due("29 with it", 29, x.closedIf(39));
        CHECK.due("27 without another", 27, x.closedIf(38));
        CHECK.due("one loop", "0 0 0", triangle("", 5).closedIf(0) + " " + triangle("", 5).closedIf(1) + " " + triangle("", 5).closedIf(2));
        Boundary.unchanged(CHECK, "busy, struck out", 0, Boundary::busy, y -> y.closedIf(0));
        Boundary.unchanged(CHECK, "busy, not any more", 1, Boundary::busy, y -> y.closedIf(1));
        Boundary.unchanged(CHECK, "busy, the last", 0, Boundary::busy, y -> y.closedIf(3));
    }

    @Says(at = "Promise 32", text = "Throws `IndexOutOfBoundsException` if there is no such sight")
    static void promise32Refused() {
        for (int sight : Boundary.WRONG_SIGHTS) Boundary.refused(CHECK, "sight " + sight, Check.INDEX, x -> x.closedIf(sight));
        Boundary.refused(CHECK, "no sights", Check.INDEX, SpiritWall::new, x -> x.closedIf(0));
    }

    @Says(at = "Promise 33", text = "Returns number of the sight, the smallest one on a tie; NONE without such sights")
    static void promise33None() {
        CHECK.due("nothing", NONE, new SpiritWall().bestStrike());
        CHECK.due("no sights", NONE, Boundary.two(5, "").bestStrike());
        SpiritWall x = Boundary.two(5, "sight a b fore 1;sight a b fore 2;");
        CHECK.due("tie", 0, x.bestStrike());
        x.strike(0, true);
        CHECK.due("the last one", 1, x.bestStrike());
        x.strike(1, true);
        CHECK.due("all struck out", NONE, x.bestStrike());
        Boundary.unchanged(CHECK, "busy", 0, Boundary::busy, y -> y.bestStrike());
    }

    @Says(at = "Promise 33", text = "the sight that is not struck out after the striking out of which the fewest loops would not close")
    static void promise33Last() {
        SpiritWall x = Boundary.full();
        x.set(3, 0);
        CHECK.due("none is open", 0, x.bestStrike());
        x.swap(39, 9);
        CHECK.due("the last of forty", 39, x.bestStrike());
        x.strike(39, true);
        CHECK.due("without it", 0, x.bestStrike());
        CHECK.due("nothing changes", "1 10 28", x.count(3) + " " + x.count(9) + " " + x.count(7));
    }

    @Says(at = "Promise 37", text = "Returns LIMIT, 0 to 999; NONE if there is none such")
    static void promise37LeastGreatestNone() {
        CHECK.due("nothing", 0, new SpiritWall().leastLimit());
        CHECK.due("no loops", 0, Boundary.two(5, "sight a b fore 1;").leastLimit());
        int[][] due = {{0, 0}, {1, 1}, {-1, 1}, {14, 1}, {15, 2}, {28, 2}, {29, 3}, {13972, 998}, {13973, 999}, {13986, 999}, {-13986, 999},
            {13987, NONE}, {-13987, NONE}, {29997, NONE}};
        for (int[] row : due) CHECK.due("misclosure " + row[0], row[1], triangle("limit 7;", row[0]).leastLimit());
        Boundary.unchanged(CHECK, "999", 999, () -> triangle("limit 7;", 13986), x -> x.leastLimit());
        Boundary.unchanged(CHECK, "none", NONE, () -> triangle("limit 7;", 13987), x -> x.leastLimit());
    }

    @Says(at = "Promise 37", text = "the least LIMIT with which all loops would close")
    static void promise37All() {
        CHECK.due("the first decides", 4, triangles(49000, 31, 49000, 1).leastLimit());
        CHECK.due("the second decides", 4, triangles(49000, 1, 49000, -31).leastLimit());
        CHECK.due("the first is beyond", NONE, triangles(49000, 9999, 49000, 1).leastLimit());
        CHECK.due("the second is beyond", NONE, triangles(49000, 1, 49000, 9999).leastLimit());
        SpiritWall x = Boundary.full();
        CHECK.due("29 loops", 0, x.leastLimit());
        x.swap(39, 9999);
        CHECK.due("the last does not", NONE, x.leastLimit());
    }
}
