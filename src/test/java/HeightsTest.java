/** Promises 24 to 26, 35, 36, 43 and 44: heights that are levelled and relaxed, and how well they fit. */
public final class HeightsTest {
    private static final Check CHECK = new Check("HeightsTest");
    private static final int NONE = SpiritWall.NONE;
    private static final int NO_HEIGHT = SpiritWall.NO_HEIGHT;
    /** The rises are 50 (a b), 20 (b c) and 71 (a c); c is as far from the bench by b as straight on. */
    private static final String BASE = "mark a 0 at 100; mark b 1500; mark c 2500; mark d 9000; sight a b fore 50;"
            + "sight b c fore 24; sight c b fore -16; sight a c fore 75; sight c a back -75;";

    public static void main(String[] args) {
        promise24();
        promises25And26();
        promise35();
        promise36();
        promise43();
        promise43Ways();
        promise44();
        promise44Rounding();
        promise44Rounds();
        promise44Kept();
        CHECK.end();
    }

    private static String heights(SpiritWall x) {
        StringBuilder text = new StringBuilder();
        for (int m = 0; m < x.count(0); m++) {
            text.append(m > 0 ? " " : "").append(x.height(m) == NO_HEIGHT ? "?" : "" + x.height(m));
        }
        return text.toString();
    }

    private static void promise24() {
        SpiritWall x = Check.wall(BASE);
        CHECK.due("24 one height", 0L, x.misfit());
        x.level();
        CHECK.due("24 levelled", 1L, x.misfit());
        x.fix(1, 140);
        CHECK.due("24 three edges", 10L * 10 + 11 * 11, x.misfit());
        x.fix(2, 99999);
        x.fix(0, -99999);
        x.fix(1, 0);
        CHECK.due("24 beyond int", 99949L * 99949 + 99979L * 99979 + (199998L - 71) * (199998 - 71), x.misfit());
        x.free(1);
        x.strike(0, true);
        x.strike(1, true);
        x.strike(2, true);
        CHECK.due("24 struck edges do not count", (199998L - 75) * (199998 - 75), x.misfit());
        CHECK.due("24 no marks", 0L, new SpiritWall().misfit());
    }

    private static void promises25And26() {
        SpiritWall x = Check.wall(BASE);
        CHECK.due("26 none yet", NONE, x.tensest());
        CHECK.due("25 no others", 0, x.tension(0));
        CHECK.due("25 no height", NO_HEIGHT, x.tension(1));
        x.level();
        CHECK.due("25 of all", "0 1 1", x.tension(0) + " " + x.tension(1) + " " + x.tension(2));
        CHECK.due("26 smallest on a tie", 1, x.tensest());
        x.fix(2, 181);
        CHECK.due("25 of benches too", "10 11 11", x.tension(0) + " " + x.tension(1) + " " + x.tension(2));
        x.fix(2, 161);
        CHECK.due("25 below", "10 9 10", x.tension(0) + " " + x.tension(1) + " " + x.tension(2));
        CHECK.due("26 greatest", 0, x.tensest());
        x.fix(3, 5);
        CHECK.due("25 bench alone", 0, x.tension(3));
        x.addSight(3, 1, 0, 0, 20);
        x.tellError(0);
        CHECK.due("25 far off", 145, x.tension(3));
        x.swap(5, 1);
        CHECK.due("25 by the sights as they are now", 144, x.tension(3));
        x.swap(5, 0);
        CHECK.due("26 smallest of b and d", 1, x.tensest());
        x.swap(5, -200);
        x.strike(5, true);
        CHECK.due("26 by the sights as they are now", 0, x.tensest());
        x.fix(1, 400);
        CHECK.due("25 by the first edge", "250 259 259", x.tension(0) + " " + x.tension(1) + " " + x.tension(2));
        x.fix(1, -400);
        x.strike(1, true);
        x.strike(2, true);
        CHECK.due("25 by the first edge alone", 550, x.tension(1));
        CHECK.dueThrow("25 mark below", Check.INDEX, () -> x.tension(-1));
        CHECK.dueThrow("25 mark above", Check.INDEX, () -> x.tension(4));
        CHECK.due("26 no marks", NONE, new SpiritWall().tensest());
    }

    private static void promise35() {
        SpiritWall x = Check.wall(BASE);
        CHECK.due("35 levelled only", 1L, x.misfitAfter(0));
        CHECK.due("35 not changed", "100 ? ? ?", heights(x));
        SpiritWall y = pull();
        CHECK.due("35 levelled", 12L * 12, y.misfitAfter(0));
        CHECK.due("35 one round", 6L * 6 + 6 * 6, y.misfitAfter(1));
        CHECK.due("35 until nothing changes", 6L * 6 + 6 * 6, y.misfitAfter(50));
        CHECK.due("35 still none", 0L, y.misfit());
        CHECK.due("35 no change", 0, y.count(9));
        CHECK.dueThrow("35 below", Check.ARGUMENT, () -> y.misfitAfter(-1));
        CHECK.dueThrow("35 above", Check.ARGUMENT, () -> y.misfitAfter(51));
        y.fix(1, 77);
        y.free(1);
        CHECK.due("35 as it would be, not as it is", 12L * 12, y.misfitAfter(0));
    }

    /** Two benches that differ by 12, with a mark between them; all rises are 0. */
    private static SpiritWall pull() {
        return Check.wall("mark a 0 at 0; mark b 2000; mark c 4000 at 12; sight a b fore 0; sight b c fore 0;");
    }

    private static void promise36() {
        SpiritWall x = Check.wall(BASE);
        CHECK.due("36 bench", 100, x.heightIf(0));
        CHECK.due("36 next", 150, x.heightIf(1));
        CHECK.due("36 tie by the smaller mark", 171, x.heightIf(2));
        CHECK.due("36 none", NO_HEIGHT, x.heightIf(3));
        CHECK.due("36 not changed", "100 ? ? ? 0", heights(x) + " " + x.count(9));
        x.level();
        x.free(0);
        CHECK.due("36 without benches", NO_HEIGHT, x.heightIf(0));
        CHECK.due("36 heights stay", "100 150 171 ?", heights(x));
        CHECK.dueThrow("36 below", Check.INDEX, () -> x.heightIf(-1));
        CHECK.dueThrow("36 above", Check.INDEX, () -> x.heightIf(4));
    }

    private static void promise43() {
        SpiritWall x = Check.wall(BASE);
        CHECK.due("43 level", 3, x.level());
        CHECK.due("43 heights", "100 150 171 ?", heights(x));
        x.fix(3, 7);
        x.strike(3, true);
        x.strike(4, true);
        CHECK.due("43 with another bench", 4, x.level());
        CHECK.due("43 by b now", "100 150 170 7", heights(x));
        x.strike(0, true);
        CHECK.due("43 heights are lost", 2, x.level());
        CHECK.due("43 benches alone", "100 ? ? 7", heights(x));
        x.undo();
        CHECK.due("43 undo", "100 150 170 7", heights(x));
        benchesAnew();
        x.free(0);
        x.free(3);
        CHECK.due("43 without benches", 0, x.level());
        CHECK.due("43 none", "? ? ? ?", heights(x));
        CHECK.due("43 no marks", 0, new SpiritWall().level());
    }

    /** A bench has the way 0, however far it was levelled before. */
    private static void benchesAnew() {
        SpiritWall x = Check.wall("error 0; mark a 0 at 0; mark b 6000; mark c 8000; mark d 13000 at 500;"
                + "sight a b fore 1; sight b c fore 2; sight c d fore 4;");
        x.level();
        CHECK.due("43 c by d", "0 1 496 500", heights(x));
        x.fix(1, 50);
        x.level();
        CHECK.due("43 c by b as a bench", "0 50 52 500", heights(x));
    }

    private static void promise43Ways() {
        SpiritWall x = Check.wall("mark a 0 at 1000; mark b 8000 at -1000; mark c 4000; mark d 3000; error 0;"
                + "sight a c fore 1; sight b c fore 2; sight c d fore 10; sight d b fore -100;");
        x.level();
        CHECK.due("43 the nearest bench, of the same way the smaller mark", "1000 -1000 1001 -900", heights(x));
        x = Check.wall("mark a 0 at 1000; mark b 7999 at -1000; mark c 4000; mark d 3000; error 0;"
                + "sight a c fore 1; sight b c fore 2; sight c d fore 10; sight d b fore -100;");
        x.level();
        CHECK.due("43 the nearer bench", "1000 -1000 -998 -900", heights(x));
        x = Check.wall("mark d 3000; mark c 2000; mark b 1000; mark a 0 at 5; mark e 90000 at 7; length 1;"
                + "error 0; sight e d fore 1; sight c d fore 4; sight b c fore 20; sight a b fore 300;");
        x.level();
        CHECK.due("43 the way counts, not the number of edges", "329 325 305 5 7", heights(x));
        x = Check.wall("mark a 50000 at 0; mark b 99999; mark c 30000; mark d 0; error 0; length 1;"
                + "sight b a back 10; sight c a fore 20; sight d c fore 30; sight b d fore 1;");
        x.level();
        CHECK.due("43 rises the other way", "0 -10 -20 -50", heights(x));
    }

    private static void promise44() {
        SpiritWall x = Check.wall(BASE);
        CHECK.due("44 nothing to relax", 0, x.relax(1));
        x.level();
        CHECK.due("44 one of two rounds changes", 1, x.relax(50));
        CHECK.due("44 relaxed", "100 150 170 ?", heights(x));
        CHECK.due("44 nothing changes any more", 0, x.relax(1));
        CHECK.dueThrow("44 below", Check.ARGUMENT, () -> x.relax(0));
        CHECK.dueThrow("44 above", Check.ARGUMENT, () -> x.relax(51));
        x.fix(1, 0);
        x.relax(1);
        CHECK.due("44 by the weights", "100 0 63 ?", heights(x));
        x.strike(4, true);
        x.relax(1);
        CHECK.due("44 the weight is of the sights that count", "100 0 45 ?", heights(x));
    }

    private static void promise44Rounding() {
        SpiritWall x = Check.wall("mark a 0 at -1; mark b 2000; mark c 4000 at 0; sight a b fore 0; sight b c fore 0;");
        x.level();
        CHECK.due("44 levelled", "-1 -1 0", heights(x));
        x.fix(0, 0);
        x.fix(2, -1);
        x.relax(1);
        CHECK.due("44 down below 0", "0 -1 -1", heights(x));
        x.fix(0, 2);
        x.relax(1);
        CHECK.due("44 down above 0", "2 0 -1", heights(x));
        x = Check.wall("error 0; mark a 7 at 7; mark b 10; mark c 14 at 0; sight a b fore 0; sight b c fore 0;");
        x.level();
        x.relax(1);
        CHECK.due("44 nearly 4, exactly", (7 * 333333) / 583333, x.height(1));
        x = Check.wall("mark a 0 at 30; mark b 1; mark c 99999 at 99999; error 0; sight a b fore 0;"
                + "sight b c fore 0;");
        x.level();
        x.relax(50);
        CHECK.due("44 great and small weights", "30 30 99999", heights(x));
        x.fix(0, 0);
        x.relax(50);
        CHECK.due("44 great and small weights to 0", (long) 10 * 99999 / 1000010, x.height(1));
    }

    private static void promise44Rounds() {
        SpiritWall x = Check.wall("mark a 0 at 0; mark b 2000; mark c 4000; mark d 6000 at 0; sight a b fore 0;"
                + "sight b c fore 0; sight c d fore 0;");
        x.level();
        x.fix(2, 800);
        x.free(2);
        CHECK.due("44 one round", 1, x.relax(1));
        CHECK.due("44 marks behind go by it", "0 400 200 0", heights(x));
        CHECK.due("44 two rounds", 2, x.relax(2));
        CHECK.due("44 after three rounds", "0 25 12 0", heights(x));
        CHECK.due("44 as many as change", 3, x.relax(50));
        CHECK.due("44 in the end", "0 0 0 0", heights(x));
        SpiritWall y = Check.wall("mark a 0; mark b 2000; mark c 4000; error 0; sight a b fore 0; sight b c fore 0;"
                + "sight a c fore 5;");
        y.fix(0, 0);
        y.free(0);
        y.fix(1, 0);
        y.free(1);
        y.fix(2, 0);
        y.free(2);
        CHECK.due("44 heights without a bench sink for ever", "3 50 50", y.relax(3) + " " + y.relax(50) + " " + y.relax(50));
    }

    private static void promise44Kept() {
        SpiritWall x = Check.wall(BASE);
        x.fix(2, 5);
        x.free(2);
        CHECK.due("44 a bench stays, others without heights too", 1, x.relax(3));
        CHECK.due("44 only c", "100 ? 171 ?", heights(x));
        x.fix(3, 5);
        x.free(3);
        x.strike(3, true);
        x.strike(4, true);
        CHECK.due("44 no edges to heights", 0, x.relax(3));
        CHECK.due("44 stays", "100 ? 171 5", heights(x));
    }
}
