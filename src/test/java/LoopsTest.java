/** Promises 19 to 22, 28, 29, 31 to 33 and 37: loops, and what would become of them. */
public final class LoopsTest {
    private static final Check CHECK = new Check("LoopsTest");
    private static final int NONE = SpiritWall.NONE;
    /** All swings are even. The forest is a b, b c, c d; the loops are a/c/b (1) and b/d/c (-5), of the way 8000. */
    private static final String TWO = "mark a 0; mark b 2000; mark c 4000; mark d 6000; sight a b fore 10;"
            + "sight b c fore 20; sight c d fore 30; sight a c fore 31; sight b d fore 45;";

    public static void main(String[] args) {
        promise19();
        promise19Forest();
        promise19Closing();
        promise20();
        promise21();
        promise22();
        promises28And29();
        promise31();
        promise32();
        promise32Error();
        promise33();
        promise37();
        CHECK.end();
    }

    private static String loop(SpiritWall x, int loop) {
        StringBuilder text = new StringBuilder();
        for (int what = 0; what < 6; what++) text.append(what > 0 ? " " : "").append(x.loop(loop, what));
        for (int i = 0; i < 13; i++) text.append(i == 0 ? " : " : " ").append(x.loopMark(loop, i));
        return text.substring(0, text.indexOf(" -1", text.indexOf(":")));
    }

    private static void promise19() {
        SpiritWall x = Check.wall(TWO);
        CHECK.due("19 first", "0 2 3 8000 1 1 : 0 2 1", loop(x, 0));
        CHECK.due("19 second", "1 3 3 8000 -5 1 : 1 3 2", loop(x, 1));
        x.set(3, 1);
        CHECK.due("19 second does not close", "1 3 3 8000 -5 0 : 1 3 2", loop(x, 1));
        x.addSight(3, 0, 0, -70, 20);
        CHECK.due("19 long one", "0 3 4 12000 10 0 : 0 3 2 1", loop(x, 1));
        CHECK.due("19 number of the last", "1 3 3 8000 -5 0 : 1 3 2", loop(x, 2));
        CHECK.dueThrow("19 below", Check.INDEX, () -> x.loop(-1, 6));
        CHECK.dueThrow("19 above", Check.INDEX, () -> x.loop(3, 0));
        CHECK.dueThrow("19 what below", Check.ARGUMENT, () -> x.loop(0, -1));
        CHECK.dueThrow("19 what above", Check.ARGUMENT, () -> x.loop(0, 6));
    }

    private static void promise19Forest() {
        SpiritWall x = Check.wall("mark a 0; mark b 2000; mark c 4000; mark d 6000; sight b d fore 1; sight a c fore 2;"
                + "sight d c fore 4; sight a b fore 8;");
        CHECK.due("19 of the same distance by the smaller mark", "1 3 4 12000 11 1 : 1 3 2 0", loop(x, 0));
        CHECK.due("19 in the forest", "1 0", x.edge(0, 2, 3) + " " + x.edge(1, 3, 3));
        x = Check.wall("mark a 4000; mark b 0; mark c 8000; mark d 4002; sight a b fore 1; sight a c fore 1;"
                + "sight d b fore 1; sight d c fore 1;");
        CHECK.due("19 the shortest first", "0 1", x.edge(1, 3, 3) + " " + x.edge(2, 3, 3));
        CHECK.due("19 loop of the longest", "1 3 4 16000 0 1 : 1 3 2 0", loop(x, 0));
        x = Check.wall("mark a 0; mark b 4000; mark c 2000; error 0; sight a b fore 9; sight b c fore 3; sight c a fore 1;");
        CHECK.due("19 the first edge is the longest", "0 1 3 8000 13 1 : 0 1 2", loop(x, 0));
        CHECK.due("19 in the forest", "0 1 1", x.edge(0, 1, 3) + " " + x.edge(1, 2, 3) + " " + x.edge(2, 0, 3));
        CHECK.due("19 along it", "-4 4 0", x.along(0, 1) + " " + x.along(1, 0) + " " + x.along(1, 1));
        x = Check.wall("mark t 5000; mark u 1000; mark v 4000; mark a 0; error 0; sight a u fore 1; sight v t fore 10;"
                + "sight u v fore 100; sight a t fore 1000;");
        CHECK.due("19 along two parts that were joined late", "0 3 4 10000 -889 0 : 0 3 1 2", loop(x, 0));
        x = Check.wall("mark a 2000; mark b 0; mark c 4000; mark d 6000; mark e 8000; sight a c fore 1; sight c d fore 1;"
                + "sight a b fore 1; sight b d fore 1; sight d e fore 1; sight c e fore 1; sight a e fore 1;");
        CHECK.due("19 three loops", "0 4 4 12000 -2 1 : 0 4 3 2", loop(x, 0));
        CHECK.due("19 by the smaller mark, then by the greater one", "1 3 4 12000 0 1 : 1 3 2 0", loop(x, 1));
        CHECK.due("19 last one", "2 4 3 8000 -1 1 : 2 4 3", loop(x, 2));
    }

    private static void promise19Closing() {
        SpiritWall x = Check.wall("mark a 0; mark b 2000; mark c 5000; error 0; sight a b fore 0; sight b c fore 0; sight a c fore 10;");
        CHECK.due("19 just closes", "0 2 3 10000 10 1 : 0 2 1", loop(x, 0));
        x.set(3, 3);
        CHECK.due("19 does not close", 0, x.loop(0, 5));
        x = Check.wall("limit 4; mark a 0; mark b 2000; mark c 5000; error 0; sight a b fore 0; sight b c fore 0; sight a c fore 12;");
        CHECK.due("19 closes up to equal", 1, x.loop(0, 5));
        x.swap(2, -13);
        CHECK.due("19 misclosure below 0", -13, x.loop(0, 4));
        CHECK.due("19 one more", 0, x.loop(0, 5));
        x.swap(2, 13);
        CHECK.due("19 one more above", 0, x.loop(0, 5));
        x = Check.wall("limit 10; mark a 0; mark b 1; mark c 5000; error 0; sight a b fore 0; sight b c fore 0; sight a c fore 31;");
        CHECK.due("19 961000 of 1000000", 1, x.loop(0, 5));
        x.swap(2, 32);
        CHECK.due("19 1024000 of 1000000", 0, x.loop(0, 5));
        x = Check.wall("limit 999; mark a 0; mark b 1; mark c 99999; error 0; sight a b fore 9999; sight b c fore 9999; sight a c back -9999;");
        CHECK.due("19 great numbers", "0 2 3 199998 -29997 0 : 0 2 1", loop(x, 0));
    }

    private static void promise20() {
        SpiritWall x = Check.wall(TWO);
        CHECK.due("20 marks", "1 3 2", x.loopMark(1, 0) + " " + x.loopMark(1, 1) + " " + x.loopMark(1, 2));
        CHECK.due("20 behind", NONE, x.loopMark(1, 3));
        CHECK.due("20 ahead", NONE, x.loopMark(1, -1));
        CHECK.due("20 far", NONE, x.loopMark(0, Integer.MAX_VALUE));
        CHECK.dueThrow("20 below", Check.INDEX, () -> x.loopMark(-1, 0));
        CHECK.dueThrow("20 above", Check.INDEX, () -> x.loopMark(2, 0));
        SpiritWall y = Check.wall(ring());
        StringBuilder marks = new StringBuilder();
        for (int i = 0; i < 13; i++) marks.append(y.loopMark(0, i)).append(' ');
        CHECK.due("20 twelve marks", "0 11 10 9 8 7 6 5 4 3 2 1 -1 ", marks.toString());
        manyLoops();
        CHECK.due("20 twelve edges", "12 22 11", y.loop(0, 2) + " " + y.loop(0, 3) + " " + y.loop(0, 4));
    }

    /** Ten marks, of which all but five pairs have a sight: the forest is the chain, 31 loops are told. */
    private static void manyLoops() {
        StringBuilder text = new StringBuilder("error 0;");
        for (int i = 0; i < 10; i++) text.append("mark ").append((char) ('a' + i)).append(i).append(';');
        for (int i = 0; i < 10; i++) {
            for (int k = i + 1; k < 10; k++) {
                if (k - i == 5) continue;
                text.append("sight ").append((char) ('a' + k)).append(' ').append((char) ('a' + i)).append(" fore 0;");
            }
        }
        SpiritWall x = Check.wall(text.toString());
        CHECK.due("20 many", "40 9 31 31", x.count(4) + " " + x.count(5) + " " + x.count(6) + " " + x.count(7));
        int loop = 0;
        for (int i = 0; i < 10; i++) {
            for (int k = i + 2; k < 10; k++) {
                if (k - i == 5) continue;
                String due = i + " " + k + " " + (k - i + 1) + " " + 2 * (k - i) + " 0 1 : " + i;
                for (int m = k; m > i; m--) due += " " + m;
                CHECK.due("20 loop " + loop, due, loop(x, loop));
                loop++;
            }
        }
    }

    private static String ring() {
        StringBuilder text = new StringBuilder("error 0;");
        for (int i = 0; i < 12; i++) text.append("mark ").append((char) ('a' + i)).append(i).append(';');
        for (int i = 1; i < 12; i++) text.append("sight ").append((char) ('a' + i - 1)).append(' ').append((char) ('a' + i)).append(" fore -1;");
        return text + "sight a l fore 0;";
    }

    private static void promise21() {
        SpiritWall x = Check.wall(TWO);
        CHECK.due("21 worst", 1, x.worstLoop());
        x.swap(4, 49);
        CHECK.due("21 smallest on a tie", 0, x.worstLoop());
        x.strike(3, true);
        CHECK.due("21 only one", 0, x.worstLoop());
        x.strike(4, true);
        CHECK.due("21 none", NONE, x.worstLoop());
        SpiritWall y = Check.wall("mark a 0; mark b 2; mark c 4; mark d 10; mark e 20; sight a b fore 0; sight b c fore 0;"
                + "sight c d fore 0; sight d e fore 0; sight a c fore 2; sight c e fore 4; length 2; error 0;");
        CHECK.due("21 by the way", "2 8 4 32", y.loop(0, 4) + " " + y.loop(0, 3) + " " + y.loop(1, 4) + " " + y.loop(1, 3));
        CHECK.due("21 exact tie", 0, y.worstLoop());
        y.swap(5, 5);
        CHECK.due("21 a little worse", 1, y.worstLoop());
        y.swap(4, 0);
        y.swap(5, 0);
        CHECK.due("21 all 0", 0, y.worstLoop());
    }

    private static void promise22() {
        SpiritWall x = Check.wall(TWO);
        CHECK.due("22 all close", NONE, x.suspect());
        x.set(3, 1);
        CHECK.due("22 fewest loops that close", 12 + 3, x.suspect());
        x.set(3, 0);
        CHECK.due("22 most loops", 12 + 2, x.suspect());
        x.strike(4, true);
        CHECK.due("22 smallest on a tie", 1, x.suspect());
        x.strike(3, true);
        CHECK.due("22 no loops", NONE, x.suspect());
    }

    private static void promises28And29() {
        SpiritWall x = Check.wall(TWO + "mark e 8000; mark f 10000; sight f d fore 0;");
        CHECK.due("28 loops", "1 2 2 1 0 0", x.loopsOf(0) + " " + x.loopsOf(1) + " " + x.loopsOf(2) + " " + x.loopsOf(3) + " "
                + x.loopsOf(4) + " " + x.loopsOf(5));
        CHECK.dueThrow("28 below", Check.INDEX, () -> x.loopsOf(-1));
        CHECK.dueThrow("28 above", Check.INDEX, () -> x.loopsOf(6));
        CHECK.due("29 one", 1, x.bridges());
        x.strike(3, true);
        CHECK.due("29 two", 2, x.bridges());
        x.strike(4, true);
        CHECK.due("29 all", 4, x.bridges());
        CHECK.due("29 of edges in the loops", "1 2 1", edgeLoops(Check.wall(TWO)));
    }

    private static String edgeLoops(SpiritWall x) {
        return x.edge(0, 1, 4) + " " + x.edge(1, 2, 4) + " " + x.edge(2, 3, 4);
    }

    private static void promise31() {
        SpiritWall x = Check.wall(TWO);
        CHECK.due("31 all", 1.0f, x.closedShare());
        x.set(3, 1);
        CHECK.due("31 half", 0.5f, x.closedShare());
        x.addSight(0, 3, 0, 70, 20);
        CHECK.due("31 a third", 1.0f / 3.0f, x.closedShare());
        CHECK.due("31 no loops", 1.0f, new SpiritWall().closedShare());
        x.set(3, 0);
        CHECK.due("31 none close", 0.0f, x.closedShare());
    }

    private static void promise32() {
        SpiritWall x = Check.wall(TWO + "limit 1;");
        int[] due = {0, 0, 1, 0, 1};
        for (int s = 0; s < 5; s++) CHECK.due("32 without " + s, due[s], x.closedIf(s));
        CHECK.due("32 nothing changes", "0 1 0", x.count(3) + " " + x.count(7) + " " + x.count(9));
        x.strike(4, true);
        CHECK.due("32 not struck any more", 1, x.closedIf(4));
        x.swap(3, 30);
        CHECK.due("32 not struck any more, now two close", 1, x.closedIf(4));
        CHECK.due("32 still struck", 1, x.count(3));
        x.set(3, 999);
        CHECK.due("32 both close with it", "2 1", x.closedIf(4) + " " + x.count(7));
        CHECK.dueThrow("32 below", Check.INDEX, () -> x.closedIf(-1));
        CHECK.dueThrow("32 above", Check.INDEX, () -> x.closedIf(5));
    }

    private static void promise32Error() {
        String text = "mark a 0; mark b 1000; mark c 2000; limit 1; sight a b fore 10; sight a b back 0;"
                + "sight b c fore 0; sight a c fore 10;";
        SpiritWall x = Check.wall(text);
        CHECK.due("32 error", "5 0", x.levelError() + " " + x.loop(0, 5));
        CHECK.due("32 found anew", 1, x.closedIf(1));
        x = Check.wall(text + "error 5;");
        CHECK.due("32 told", 0, x.closedIf(1));
    }

    private static void promise33() {
        SpiritWall x = Check.wall(TWO + "limit 1;");
        CHECK.due("33 best", 2, x.bestStrike());
        x.strike(2, true);
        CHECK.due("33 without any open", 0, x.bestStrike());
        x.strike(0, true);
        CHECK.due("33 not the struck one", 1, x.bestStrike());
        for (int s = 1; s < 5; s++) x.strike(s, true);
        CHECK.due("33 none", NONE, x.bestStrike());
        x = Check.wall(TWO + "limit 999;");
        CHECK.due("33 by those that do not close, not by those that do", 0, x.bestStrike());
        CHECK.due("33 nothing changes", "0 2", x.count(3) + " " + x.count(6));
    }

    private static void promise37() {
        SpiritWall x = Check.wall(TWO);
        CHECK.due("37 least", 2, x.leastLimit());
        x.set(3, 2);
        CHECK.due("37 all close", 2, x.count(7));
        x.set(3, 1);
        CHECK.due("37 one less", 1, x.count(7));
        x.swap(3, 30);
        x.swap(4, 50);
        CHECK.due("37 0", 0, x.leastLimit());
        CHECK.due("37 no loops", 0, new SpiritWall().leastLimit());
        x = Check.wall("mark a 0; mark b 2; mark c 5; error 0; sight a b fore 0; sight b c fore 0; sight a c fore 99;");
        CHECK.due("37 990", 990, x.leastLimit());
        x.swap(2, 100);
        CHECK.due("37 none", NONE, x.leastLimit());
        CHECK.due("37 limit stays", 10, x.setting(3));
        x = Check.wall("mark a 0; mark b 2; mark c 499; length 1; error 0; sight a b fore 0; sight b c fore 0; sight a c fore 998;");
        CHECK.due("37 999", 999, x.leastLimit());
        x.swap(2, 999);
        CHECK.due("37 none above 999", NONE, x.leastLimit());
    }
}
