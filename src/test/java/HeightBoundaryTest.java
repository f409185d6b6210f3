import java.math.BigInteger;

/** The boundaries of term 4 and of promises 13, 14, 24 to 26, 35, 36, 43 and 44: heights. */
public final class HeightBoundaryTest {
    private static final Check CHECK = new Check("HeightBoundaryTest");
    private static final int NONE = SpiritWall.NONE;
    private static final int NO_HEIGHT = SpiritWall.NO_HEIGHT;
    private static final int LEAST = Boundary.LEAST;
    private static final int GREATEST = Boundary.GREATEST;

    public static void main(String[] args) throws IllegalAccessException {
        Boundary.runAll(CHECK, HeightBoundaryTest.class);
    }

    private static String heights(SpiritWall x) {
        StringBuilder text = new StringBuilder();
        int marks = x.count(0);
        for (int m = 0; m < marks; m++) {
            int height = x.height(m);
            text.append(m > 0 ? " " : "").append(height == NO_HEIGHT ? "?" : "" + height);
        }
        return text.toString();
    }

    /** The mark b halfway between two benches; all rises are 0. */
    private static SpiritWall between(int first, int second) {
        SpiritWall x = Check.wall("error 0;mark a 0 at " + first + ";mark b 2000;mark c 4000 at " + second
                + ";sight a b fore 0;sight b c fore 0;");
        x.level();
        return x;
    }

    /** A chain of twelve marks, each one unit deeper than the one ahead of it. */
    private static SpiritWall chain() {
        SpiritWall x = Check.wall("error 0;" + Boundary.marks(12, 9090));
        for (int m = 0; m < 11; m++) x.addSight(m, m + 1, 0, -1, 20);
        return x;
    }

    // ---- term 4

    @Says(at = "Term 4", text = "Other marks have a height or none (at first none)")
    static void term4AtFirst() {
        SpiritWall x = Check.wall("mark a 0 at -99999;mark b 1;mark c 2 at 99999;mark d 3 at 0;sight a b fore 1;");
        CHECK.due("at first", "-99999 ? 99999 0", heights(x));
        x.level();
        Check.parse(x, "mark a 0 at 1;mark b 1;sight a b fore 1;");
        CHECK.due("behind another text", "1 ?", heights(x));
    }

    @Says(at = "Term 4", text = "all marks but benches have no height at first, a bench has the way 0")
    static void term4Benches() {
        SpiritWall x = chain();
        CHECK.due("without benches", "0 ? ? ? ? ? ? ? ? ? ? ? ?", x.level() + " " + heights(x));
        x.fix(0, 5);
        CHECK.due("from the first", "12 5 4 3 2 1 0 -1 -2 -3 -4 -5 -6", x.level() + " " + heights(x));
        x.fix(11, 100);
        CHECK.due("from both ends", "12 5 4 3 2 1 0 105 104 103 102 101 100", x.level() + " " + heights(x));
        x.free(0);
        x.free(11);
        CHECK.due("heights are no benches", "0 ? ? ? ? ? ? ? ? ? ? ? ?", x.level() + " " + heights(x));
        for (int m = 0; m < 12; m++) x.fix(m, m);
        CHECK.due("benches alone", "12 0 1 2 3 4 5 6 7 8 9 10 11", x.level() + " " + heights(x));
    }

    @Says(at = "Term 4", text = "the one with the least sum of the way of the mark with a height and the distance is taken")
    static void term4LeastSum() {
        String sights = "error 0;sight a c fore 1;sight b c fore 2;";
        SpiritWall x = Check.wall("mark a 0 at 100;mark b 99999 at 200;mark c 50000;" + sights);
        x.level();
        CHECK.due("b is nearer by one", "100 200 202", heights(x));
        x = Check.wall("mark a 0 at 100;mark b 99999 at 200;mark c 49999;" + sights);
        x.level();
        CHECK.due("a is nearer by one", "100 200 101", heights(x));
        x = Check.wall("error 0;mark a 0 at 0;mark b 10;mark c 30;mark d 20;sight a b fore 1;sight b d fore 2;sight d c fore 4;sight a c fore 8;"
                + "sight b c fore 16;");
        x.level();
        CHECK.due("the sum, not the distance; straight on as far as by others", "0 1 8 3", heights(x));
    }

    @Says(at = "Term 4", text = "then the one whose mark with a height has the smallest number")
    static void term4SameSum() {
        SpiritWall x = Check.wall("error 0;mark a 0 at 100;mark b 100 at 200;mark c 50;sight b c fore 2;sight a c fore 1;");
        x.level();
        CHECK.due("of two benches", "100 200 101", heights(x));
        x = Check.wall("error 0;mark c 50;mark b 100 at 200;mark a 0 at 100;sight a c fore 1;sight b c fore 2;");
        x.level();
        CHECK.due("of two benches, numbered the other way", "202 200 100", heights(x));
        x = Check.wall("error 0;mark d 30;mark a 0 at 0;mark b 10;mark c 20;sight a d fore 1;sight b d fore 2;sight c d fore 4;sight a b fore 8;"
                + "sight b c fore 16;");
        x.level();
        CHECK.due("by a bench and two others", "1 0 8 24", heights(x));
    }

    @Says(at = "Term 4", text = "The mark without a height gets that of the other one plus the rise from that one to it, and this sum as its way")
    static void term4GreatestHeights() {
        SpiritWall x = Check.wall("error 999;mark a 0 at -99999;" + Boundary.marks(12, 1).substring("mark a0;".length()));
        for (int m = 0; m < 11; m++) x.addSight(m, m + 1, 0, -9999, 20);
        x.level();
        CHECK.due("least", -99999 - 11 * 10998, x.height(11));
        x.fix(0, 99999);
        x.tellError(-999);
        for (int s = 0; s < 11; s++) x.swap(s, 9999);
        x.tellError(999);
        x.level();
        CHECK.due("greatest", 99999 + 11 * 10998, x.height(11));
        x.free(0);
        x.fix(11, -99999);
        x.level();
        CHECK.due("the other way", -99999 - 11 * 10998, x.height(0));
    }

    @Says(at = "Term 4", text = "divided by the sum of these weights, rounded down")
    static void term4RoundedDown() {
        int[][] due = {{0, 0, 0}, {0, 1, 0}, {1, 1, 1}, {0, -1, -1}, {-1, -1, -1}, {-1, -2, -2}, {-3, 0, -2}, {1, -1, 0}, {2, -3, -1},
            {99999, 99999, 99999}, {-99999, -99999, -99999}, {-99999, -99998, -99999}, {99999, 99998, 99998}, {99999, -99999, 0}};
        for (int[] row : due) {
            SpiritWall x = between(row[0], row[1]);
            x.relax(1);
            CHECK.due(row[0] + " and " + row[1], row[0] + " " + row[2] + " " + row[1], heights(x));
        }
    }

    @Says(at = "Term 4", text = "the new height is the sum, over all its edges whose other marks have heights, of the weight times what the edge"
            + " tells, divided by the sum of these weights, rounded down")
    static void term4GreatestWeights() {
        for (int sign = -1; sign <= 1; sign += 2) {
            SpiritWall x = Check.wall("error 0;mark a 0 at " + sign * 99999 + ";mark b 1;mark c 99999 at " + sign * -99999 + ";");
            for (int s = 0; s < 39; s++) x.addSight(0, 1, 0, 0, 20);
            x.addSight(1, 2, 0, 0, 20);
            x.level();
            x.relax(1);
            long sum = sign * 99999L * 39000000 - sign * 99999L * 10;
            CHECK.due("sign " + sign, Math.floorDiv(sum, 39000010L), x.height(1));
        }
    }

    @Says(at = "Term 4", text = "divided by the sum of these weights, rounded down")
    static void term4OneLessThanTheWeights() {
        int[][] due = {{2, 0, 0}, {1, 1, 1}, {-2, 0, -1}, {-1, -1, -1}, {0, 2, 1}, {0, -2, -2}, {-2, -1, -2}};
        for (int[] row : due) {
            SpiritWall x = Check.wall("error 0;mark a 99999 at " + row[0] + ";mark b 0;mark c 90909 at " + row[1]
                    + ";sight a b fore 0;sight b c fore 0;");
            x.level();
            x.relax(1);
            CHECK.due("10 times " + row[0] + " and 11 times " + row[1] + " by 21", row[2], x.height(1));
        }
    }

    @Says(at = "Term 4", text = "it stays without such edges")
    static void term4Stays() {
        SpiritWall x = Check.wall("error 0;mark a 0 at 5;mark b 10;mark c 20;sight a b fore 1;sight b c fore 1;");
        x.free(0);
        CHECK.due("no other height", "0 5 ? ?", x.relax(50) + " " + heights(x));
        x.fix(2, 9);
        CHECK.due("none beside it", "0 5 ? 9", x.relax(50) + " " + heights(x));
        x.level();
        CHECK.due("levelled", "7 8 9", heights(x));
        x.fix(1, -7);
        x.free(1);
        x.strike(0, true);
        x.strike(1, true);
        CHECK.due("the sights struck out", "0 7 -7 9", x.relax(50) + " " + heights(x));
        CHECK.due("no marks", 0, new SpiritWall().relax(50));
    }

    @Says(at = "Term 4", text = "In a round each mark that is no bench and has a height, by number, gets a new one at once (marks behind it go by"
            + " it)")
    static void term4AtOnce() {
        SpiritWall x = Check.wall("error 0;mark a 0 at 0;mark b 10;mark c 20;mark d 30;sight a b fore 0;sight b c fore 0;sight c d fore 0;");
        x.level();
        x.fix(3, 800);
        x.free(3);
        CHECK.due("one round", "1 0 0 400 400", x.relax(1) + " " + heights(x));
        CHECK.due("another one", "1 0 200 300 300", x.relax(1) + " " + heights(x));
        x.fix(1, 64);
        CHECK.due("a bench stays", "1 0 64 182 182", x.relax(1) + " " + heights(x));
    }

    @Says(at = "Term 4", text = "rounds are made until one changes no height, which is the last one, or until there were so many")
    static void term4Rounds() {
        CHECK.due("none changes", 0, between(7, 7).relax(50));
        CHECK.due("one changes, one does not", 1, between(0, 10).relax(50));
        CHECK.due("as many as are asked", 1, between(0, 10).relax(1));
        SpiritWall x = Check.wall("error 0;mark a 0;mark b 2000;mark c 4000;sight a b fore 0;sight b c fore 0;sight a c fore 5;");
        for (int m = 0; m < 3; m++) x.fix(m, 0);
        for (int m = 0; m < 3; m++) x.free(m);
        CHECK.due("fifty of fifty", "50 49 1", x.relax(50) + " " + x.relax(49) + " " + x.relax(1));
    }

    @Says(at = "Term 4", text = "The misfit is the sum over all edges whose two marks have heights of the square of the difference between the"
            + " rise and the greater mark's height less the smaller mark's one")
    static void term4GreatestMisfit() {
        SpiritWall x = Boundary.full();
        for (int m = 0; m < 12; m++) x.fix(m, m % 2 == 0 ? 99999 : -99999);
        for (int s = 0; s < 40; s++) x.swap(s, 9999);
        BigInteger misfit = BigInteger.ZERO;
        for (int s = 0; s < 40; s++) {
            long difference = 9999L - (x.height(x.sight(s, 1)) - x.height(x.sight(s, 0)));
            misfit = misfit.add(BigInteger.valueOf(difference).pow(2));
        }
        CHECK.due("of forty edges", misfit.longValueExact(), x.misfit());
        CHECK.due("beyond int", true, misfit.bitLength() > 32);
    }

    // ---- promises 13 and 14

    @Says(at = "Promise 13", text = "NO_HEIGHT if it has none")
    static void promise13None() {
        SpiritWall x = Check.wall("mark a 0 at 0;mark b 5;mark c 10 at -99999;mark d 15 at 99999;");
        CHECK.due("all", "0 -10000000 -99999 99999", x.height(0) + " " + x.height(1) + " " + x.height(2) + " " + x.height(3));
    }

    @Says(at = "Promise 13", text = "Throws `IndexOutOfBoundsException` if there is no such mark")
    static void promise13Refused() {
        for (int mark : Boundary.WRONG_MARKS) Boundary.refused(CHECK, "mark " + mark, Check.INDEX, x -> x.height(mark));
        Boundary.refused(CHECK, "no marks", Check.INDEX, SpiritWall::new, x -> x.height(0));
    }

    @Says(at = "Promise 14", text = "Returns 0 it would have one (a bench always), 1 there are no sights from it or to it, 2 all these are struck"
            + " out, 3 it is joined with no bench")
    static void promise14Each() {
        SpiritWall x = Check.wall(Boundary.marks(12, 1) + "sight a b fore 1;sight b a fore 1;sight b c fore 1;");
        CHECK.due("no bench at all", "3 3 3 1", x.whyNone(0) + " " + x.whyNone(1) + " " + x.whyNone(2) + " " + x.whyNone(11));
        x.fix(11, 0);
        CHECK.due("a bench elsewhere, without sights", "3 3 3 0", x.whyNone(0) + " " + x.whyNone(1) + " " + x.whyNone(2) + " " + x.whyNone(11));
        x.strike(0, true);
        CHECK.due("one of two struck out", 3, x.whyNone(0));
        x.strike(1, true);
        CHECK.due("both struck out", "2 3", x.whyNone(0) + " " + x.whyNone(1));
        x.fix(0, 0);
        CHECK.due("a bench with sights that are struck out", "0 3", x.whyNone(0) + " " + x.whyNone(1));
        x.strike(1, false);
        CHECK.due("joined", "0 0 0", x.whyNone(0) + " " + x.whyNone(1) + " " + x.whyNone(2));
        x.level();
        x.free(0);
        CHECK.due("a height is no bench", "3 3", x.whyNone(0) + " " + x.whyNone(1));
    }

    @Says(at = "Promise 14", text = "Tells why a mark would have no height if the marks were levelled now")
    static void promise14FarBench() {
        SpiritWall x = chain();
        x.fix(11, 0);
        CHECK.due("eleven edges away", 0, x.whyNone(0));
        Boundary.unchanged(CHECK, "busy", 0, Boundary::busy, y -> y.whyNone(2));
    }

    @Says(at = "Promise 14", text = "Throws `IndexOutOfBoundsException` if there is no such mark")
    static void promise14Refused() {
        for (int mark : Boundary.WRONG_MARKS) Boundary.refused(CHECK, "mark " + mark, Check.INDEX, x -> x.whyNone(mark));
        Boundary.refused(CHECK, "no marks", Check.INDEX, SpiritWall::new, x -> x.whyNone(0));
    }

    // ---- promises 24 to 26

    @Says(at = "Promise 24", text = "Returns the misfit")
    static void promise24None() {
        CHECK.due("nothing", 0L, new SpiritWall().misfit());
        CHECK.due("no heights", 0L, Boundary.two(5, "error 0;sight a b fore 9;").misfit());
        SpiritWall x = Boundary.two(5, "error 0;sight a b fore 9;");
        x.fix(0, 0);
        CHECK.due("one height", 0L, x.misfit());
        x.fix(1, 9);
        CHECK.due("fits", 0L, x.misfit());
        x.fix(1, 10);
        CHECK.due("one above", 1L, x.misfit());
        x.fix(1, 8);
        CHECK.due("one below", 1L, x.misfit());
        x.fix(1, 99999);
        x.fix(0, -99999);
        CHECK.due("beyond int", (199998L - 9) * (199998L - 9), x.misfit());
        x.strike(0, true);
        CHECK.due("no edges", 0L, x.misfit());
    }

    @Says(at = "Promise 25", text = "0 if there is none; NO_HEIGHT if it has no height")
    static void promise25None() {
        SpiritWall x = Boundary.two(5, "error 0;sight a b fore 9;");
        CHECK.due("no height", "-10000000 -10000000", x.tension(0) + " " + x.tension(1));
        x.fix(0, 5);
        CHECK.due("no other height", "0 -10000000", x.tension(0) + " " + x.tension(1));
        x.fix(1, 14);
        CHECK.due("as told", "0 0", x.tension(0) + " " + x.tension(1));
        x.fix(1, 15);
        CHECK.due("one above", "1 1", x.tension(0) + " " + x.tension(1));
        x.fix(1, 13);
        CHECK.due("one below", "1 1", x.tension(0) + " " + x.tension(1));
        x.strike(0, true);
        CHECK.due("no edge", "0 0", x.tension(0) + " " + x.tension(1));
        CHECK.due("a mark alone", NO_HEIGHT, Check.wall("mark a 5;").tension(0));
        CHECK.due("a bench alone", 0, Check.wall("mark a 5 at -99999;").tension(0));
    }

    @Says(at = "Promise 25", text = "Returns the greatest absolute difference between its height and the height of another mark plus the rise"
            + " from there, over all its edges whose other marks have heights")
    static void promise25Greatest() {
        SpiritWall x = Boundary.two(99999, "bend 99;warm -99;length 9999;error 999;sight a b fore -9999 heat -40;");
        x.fix(0, -99999);
        x.fix(1, 99999);
        CHECK.due("greatest", "226834 226834", x.tension(0) + " " + x.tension(1));
        x.fix(0, 99999);
        x.fix(1, -99999);
        CHECK.due("the other way", "173162 173162", x.tension(0) + " " + x.tension(1));
    }

    @Says(at = "Promise 25", text = "Throws `IndexOutOfBoundsException` if there is no such mark")
    static void promise25Refused() {
        for (int mark : Boundary.WRONG_MARKS) Boundary.refused(CHECK, "mark " + mark, Check.INDEX, x -> x.tension(mark));
        Boundary.refused(CHECK, "no marks", Check.INDEX, SpiritWall::new, x -> x.tension(0));
    }

    @Says(at = "Promise 26", text = "Returns number of the mark, the smallest one on a tie; NONE if no mark has a tension above 0")
    static void promise26None() {
        CHECK.due("nothing", NONE, new SpiritWall().tensest());
        CHECK.due("no heights", NONE, Boundary.full().tensest());
        SpiritWall x = chain();
        x.fix(0, 5);
        x.level();
        CHECK.due("levelled", NONE, x.tensest());
        x.fix(11, x.height(11) + 1);
        CHECK.due("tie of the last two", 10, x.tensest());
        x.fix(9, x.height(9) + 2);
        CHECK.due("tie of those around j", 8, x.tensest());
        x.addSight(11, 0, 0, 9999, 20);
        CHECK.due("tie of the first and the last", 0, x.tensest());
        CHECK.due("a bench alone", NONE, Check.wall("mark a 5 at 7;").tensest());
    }

    // ---- promises 35 and 36

    @Says(at = "Promise 35", text = "Throws `IllegalArgumentException` if rounds is out of range")
    static void promise35Refused() {
        for (int rounds : new int[] {-1, 51, LEAST, GREATEST}) {
            Boundary.refused(CHECK, "rounds " + rounds, Check.ARGUMENT, x -> x.misfitAfter(rounds));
            Boundary.refused(CHECK, "rounds " + rounds + " of nothing", Check.ARGUMENT, SpiritWall::new, x -> x.misfitAfter(rounds));
        }
    }

    @Says(at = "Promise 35", text = "Tells what the misfit would be if the marks were levelled now, and relaxed by some rounds")
    static void promise35NoneAndFifty() {
        CHECK.due("nothing", "0 0", new SpiritWall().misfitAfter(0) + " " + new SpiritWall().misfitAfter(50));
        SpiritWall x = Check.wall("error 0;mark a 0 at 0;mark b 10;mark c 20;mark d 30 at 9000;sight a b fore 0;sight b c fore 0;sight c d fore 0;");
        CHECK.due("no round", 81000000L, x.misfitAfter(0));
        SpiritWall y = Check.wall("error 0;mark a 0 at 0;mark b 10;mark c 20;mark d 30 at 9000;sight a b fore 0;sight b c fore 0;sight c d fore 0;");
        y.level();
        for (int rounds = 1; rounds <= 50; rounds++) {
            y.relax(1);
            CHECK.due("rounds " + rounds, y.misfit(), x.misfitAfter(rounds));
        }
        CHECK.due("nothing changes", "0 ? ? 9000 0", heights(x) + " " + x.count(9));
        Boundary.unchanged(CHECK, "busy 0", Boundary.busy().misfitAfter(0), Boundary::busy, z -> z.misfitAfter(0));
        Boundary.unchanged(CHECK, "busy 50", Boundary.busy().misfitAfter(50), Boundary::busy, z -> z.misfitAfter(50));
        Boundary.unchanged(CHECK, "sinking 50", sinkingMisfit(50), HeightBoundaryTest::sinking, z -> z.misfitAfter(50));
    }

    /** Three marks with heights and no bench, of which the loop does not close: their heights sink in each round. */
    private static SpiritWall sinking() {
        SpiritWall x = Check.wall("error 0;mark a 0;mark b 2000;mark c 4000;sight a b fore 0;sight b c fore 0;sight a c fore 5;");
        x.fix(0, 0);
        return x;
    }

    private static long sinkingMisfit(int rounds) {
        SpiritWall x = sinking();
        x.level();
        x.relax(rounds);
        return x.misfit();
    }

    @Says(at = "Promise 36", text = "NO_HEIGHT if it would have none")
    static void promise36None() {
        CHECK.due("no bench", NO_HEIGHT, Check.wall("mark a 5;").heightIf(0));
        CHECK.due("a bench", -99999, Check.wall("mark a 5 at -99999;").heightIf(0));
        SpiritWall x = chain();
        for (int m = 0; m < 12; m++) CHECK.due("without benches " + m, NO_HEIGHT, x.heightIf(m));
        x.fix(0, 5);
        for (int m = 0; m < 12; m++) CHECK.due("of the chain " + m, 5 - m, x.heightIf(m));
        CHECK.due("nothing changes", "5 ? ? ? ? ? ? ? ? ? ? ?", heights(x));
        x.level();
        x.free(0);
        CHECK.due("heights alone", "-10000000 5", x.heightIf(0) + " " + x.height(0));
        for (int m = 0; m < 4; m++) {
            int mark = m;
            Boundary.unchanged(CHECK, "busy " + m, new int[] {100, 150, 170, -7}[m], Boundary::busy, y -> y.heightIf(mark));
        }
    }

    @Says(at = "Promise 36", text = "Throws `IndexOutOfBoundsException` if there is no such mark")
    static void promise36Refused() {
        for (int mark : Boundary.WRONG_MARKS) Boundary.refused(CHECK, "mark " + mark, Check.INDEX, x -> x.heightIf(mark));
        Boundary.refused(CHECK, "no marks", Check.INDEX, SpiritWall::new, x -> x.heightIf(0));
    }

    // ---- promises 43 and 44

    @Says(at = "Promise 43", text = "Returns how many marks have heights then (benches, too)")
    static void promise43NoneAndAll() {
        CHECK.due("nothing", 0, new SpiritWall().level());
        CHECK.due("no bench", 0, Boundary.full().level());
        SpiritWall x = chain();
        x.fix(3, 0);
        CHECK.due("all", 12, x.level());
        x.strike(3, true);
        CHECK.due("cut", 4, x.level());
        x.fix(11, 0);
        CHECK.due("from the other end", 12, x.level());
        x.strike(10, true);
        CHECK.due("the other end alone", 5, x.level());
        for (int m = 0; m < 12; m++) x.fix(m, 0);
        CHECK.due("twelve benches", 12, x.level());
        CHECK.due("a change each time", 10, x.count(9));
    }

    @Says(at = "Promise 44", text = "Throws `IllegalArgumentException` if rounds is out of range")
    static void promise44Refused() {
        for (int rounds : new int[] {0, -1, 51, LEAST, GREATEST}) {
            Boundary.refused(CHECK, "rounds " + rounds, Check.ARGUMENT, x -> x.relax(rounds));
            Boundary.refused(CHECK, "rounds " + rounds + " of nothing", Check.ARGUMENT, SpiritWall::new, x -> x.relax(rounds));
        }
    }

    @Says(at = "Promise 44", text = "Returns how many rounds changed a height")
    static void promise44NoneAndFifty() {
        CHECK.due("nothing", "0 0", new SpiritWall().relax(1) + " " + new SpiritWall().relax(50));
        CHECK.due("no heights", 0, Boundary.full().relax(50));
        SpiritWall x = sinking();
        x.level();
        x.free(0);
        CHECK.due("each round changes one", "1 50", x.relax(1) + " " + x.relax(50));
        x.fix(0, 0);
        CHECK.due("fewer than asked", true, x.relax(50) < 50);
        CHECK.due("none any more", 0, x.relax(50));
    }

    @Says(at = "What it is", text = "An object is used for at most 512 calls after it has been made")
    static void lastCall() {
        SpiritWall x = new SpiritWall();
        PlainWall plain = new PlainWall();
        String text = "mark a 0 at 0;mark b 2000;mark c 4001;sight a b fore -9999;sight b c fore 9999;sight a c back 5;error 999;";
        int calls = 0;
        for (int i = 0; i < text.length(); i += 20) {
            int at = i;
            int[] words = {Check.four(text, at), Check.four(text, at + 4), Check.four(text, at + 8), Check.four(text, at + 12),
                Check.four(text, at + 16)};
            CHECK.due("feed", plain.feed(words[0], words[1], words[2], words[3], words[4]), x.feed(words[0], words[1], words[2], words[3],
                    words[4]));
            calls++;
        }
        plain.truncate(text.length());
        x.truncate(text.length());
        CHECK.due("parse", plain.parse(), x.parse());
        CHECK.due("level", plain.level(), x.level());
        CHECK.due("free", plain.free(0), x.free(0));
        calls += 4;
        while (calls < 508) {
            CHECK.due("swap", plain.swap(calls % 3, -9999), x.swap(calls % 3, -9999));
            CHECK.due("relax", plain.relax(50), x.relax(50));
            calls += 2;
        }
        for (int m = 0; m < 3; m++) CHECK.due("height " + m, plain.height(m), x.height(m));
        calls += 3;
        while (calls < 512) {
            CHECK.due("misfit, call " + calls, plain.misfit(), x.misfit());
            calls++;
        }
    }
}
