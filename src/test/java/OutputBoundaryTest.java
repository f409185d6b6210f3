/** The boundaries of promises 49 to 52: the output. */
public final class OutputBoundaryTest {
    private static final Check CHECK = new Check("OutputBoundaryTest");
    private static final int NONE = SpiritWall.NONE;

    public static void main(String[] args) throws IllegalAccessException {
        Boundary.runAll(CHECK, OutputBoundaryTest.class);
    }

    private static void printed(String label, String due, int length, SpiritWall x) {
        CHECK.due(label, due, Check.output(x));
        CHECK.due(label + " length", due.length(), length);
        CHECK.due(label + " behind it", NONE, x.outputByte(due.length()));
    }

    @Says(at = "Promise 49", text = "in place of the text before")
    static void promise49NoMarks() {
        SpiritWall x = new SpiritWall();
        printed("nothing", "", x.printMarks(), x);
        x = Check.wall("mark a 5 at 99999;");
        x.printMarks();
        x.parse();
        printed("nothing any more", "", x.printMarks(), x);
        Check.parse(x, "mark b 5;");
        printed("one mark", "b:?", x.printMarks(), x);
    }

    @Says(at = "Promise 49", text = "its name, a colon and its height (a minus sign ahead if it is below 0; a question mark without one), and"
            + " directly behind that a star if it is a bench")
    static void promise49Heights() {
        int[] heights = {0, -1, 1, 9, 10, -10, 99999, -99999, 10000, -10000};
        for (int height : heights) {
            SpiritWall x = Check.wall("mark a 5 at " + height + ";");
            printed("bench " + height, "a:" + height + "*", x.printMarks(), x);
            x.free(0);
            printed("no bench " + height, "a:" + height, x.printMarks(), x);
        }
        SpiritWall x = Check.wall("error -999;mark a 0 at 99999;mark b 1;mark c 2;sight a b fore 9999;sight a c back -9999;");
        x.level();
        printed("six digits", "a:99999* b:110997 c:89001", x.printMarks(), x);
        x.fix(0, -99999);
        x.swap(0, -9999);
        x.swap(1, -9999);
        x.level();
        printed("six digits below 0", "a:-99999* b:-110997 c:-108999", x.printMarks(), x);
    }

    @Says(at = "Promise 49", text = "for each, by number, with a space between two")
    static void promise49TwelveMarks() {
        StringBuilder text = new StringBuilder("error 999;");
        StringBuilder due = new StringBuilder("zzzzza:-99999*");
        for (int m = 0; m < 12; m++) text.append("mark zzzzz").append(Boundary.name(m)).append(12 - m).append(m == 0 ? " at -99999;" : ";");
        SpiritWall x = Check.wall(text.toString());
        for (int m = 1; m < 12; m++) {
            x.addSight(m - 1, m, 0, -9999, 20);
            due.append(" zzzzz").append(Boundary.name(m)).append(':').append(-99999 - 10998 * m);
        }
        x.level();
        printed("the longest that can be levelled", due.toString(), x.printMarks(), x);
    }

    @Says(at = "Promise 50", text = "its misclosure (a minus sign ahead if it is below 0), and an exclamation mark if it does not close")
    static void promise50Misclosures() {
        int[] readings = {0, 1, -1, 9, 10, -10, 9999, -9999};
        for (int reading : readings) {
            SpiritWall x = Check.wall("error 0;limit 0;mark a 0;mark b 2;mark c 5;sight a b fore 0;sight b c fore 0;sight a c fore " + reading + ";");
            printed("misclosure " + reading, "a/c/b " + reading + (reading == 0 ? "" : "!"), x.printLoop(0), x);
            x.set(3, 999);
            boolean closes = 1000L * reading * reading <= 10L * 999 * 999;
            printed("misclosure with 999 " + reading, "a/c/b " + reading + (closes ? "" : "!"), x.printLoop(0), x);
        }
    }

    @Says(at = "Promise 50", text = "the names of its marks in its order with slashes between them, a space")
    static void promise50Longest() {
        StringBuilder text = new StringBuilder("bend 99;warm -99;length 9100;error 999;");
        StringBuilder due = new StringBuilder();
        for (int m = 0; m < 12; m++) {
            text.append("mark zzzzz").append(Boundary.name(m)).append(m % 2 == 0 ? m : 99999 - m).append(';');
            due.append(m > 0 ? "/" : "").append("zzzzz").append(Boundary.name(m));
        }
        SpiritWall x = Check.wall(text.toString());
        for (int m = 0; m < 12; m++) x.addSight(m, (m + 1) % 12, 0, -9999, -40);
        due.append(' ').append(x.loop(0, 4)).append('!');
        CHECK.due("six digits", true, x.loop(0, 4) < -300000);
        printed("longest", due.toString(), x.printLoop(0), x);
        x.printMarks();
        printed("in place of marks", due.toString(), x.printLoop(0), x);
        SpiritWall y = Boundary.full();
        printed("the first of 29", "a/c/b 0", y.printLoop(0), y);
        printed("the last of 29", "j/l/k 0", y.printLoop(28), y);
    }

    @Says(at = "Promise 50", text = "Throws `IndexOutOfBoundsException` if there is no such loop")
    static void promise50Refused() {
        for (int loop : new int[] {-1, 1, 40, Boundary.LEAST, Boundary.GREATEST}) {
            Boundary.refused(CHECK, "loop " + loop, Check.INDEX, x -> x.printLoop(loop));
        }
        Boundary.refused(CHECK, "nothing", Check.INDEX, SpiritWall::new, x -> x.printLoop(0));
        Boundary.refused(CHECK, "no loops", Check.INDEX, () -> {
            SpiritWall x = Boundary.two(5, "sight a b fore 1;");
            x.printSight(0);
            return x;
        }, x -> x.printLoop(0));
    }

    @Says(at = "Promise 51", text = "tokens with a space between two, but a minus sign directly ahead of its number; the heat is always told")
    static void promise51LeastAndGreatest() {
        int[][] rows = {{0, 0}, {-9999, -40}, {9999, 60}, {-1, -1}, {1, 1}, {10, 10}, {-10, 20}, {100, 9}, {-1000, 0}};
        for (int[] row : rows) {
            SpiritWall x = Check.wall("mark zzzzzz 0;mark a 1;");
            x.addSight(0, 1, 0, row[0], row[1]);
            x.addSight(1, 0, 1, row[0], row[1]);
            printed("fore " + row[0], "sight zzzzzz a fore " + row[0] + " heat " + row[1], x.printSight(0), x);
            printed("back " + row[0], "sight a zzzzzz back " + row[0] + " heat " + row[1], x.printSight(1), x);
            Check.parse(x, "mark zzzzzz 0;mark a 1;" + Check.output(x) + ";");
            CHECK.due("read again " + row[0], "1 0 1 " + row[0] + " " + row[1] + " 0", Boundary.sight(x, 0));
        }
    }

    @Says(at = "Promise 51", text = "If it is struck out, a minus sign and a space stand ahead of all")
    static void promise51StruckOut() {
        SpiritWall x = Boundary.full();
        x.strike(39, true);
        printed("struck out", "- sight b g fore 0 heat 20", x.printSight(39), x);
        printed("not struck out", "sight a f fore 0 heat 20", x.printSight(38), x);
        x.strike(39, false);
        printed("not any more", "sight b g fore 0 heat 20", x.printSight(39), x);
    }

    @Says(at = "Promise 51", text = "Throws `IndexOutOfBoundsException` if there is no such sight")
    static void promise51Refused() {
        for (int sight : Boundary.WRONG_SIGHTS) Boundary.refused(CHECK, "sight " + sight, Check.INDEX, x -> x.printSight(sight));
        Boundary.refused(CHECK, "nothing", Check.INDEX, SpiritWall::new, x -> x.printSight(0));
        Boundary.refused(CHECK, "no sights", Check.INDEX, () -> {
            SpiritWall x = Boundary.two(5, "");
            x.printMarks();
            return x;
        }, x -> x.printSight(0));
    }

    @Says(at = "Promise 52", text = "Returns the byte; NONE if there is no such byte")
    static void promise52NoSuchByte() {
        SpiritWall x = new SpiritWall();
        int[] wrong = {-1, 0, 1, 900, Boundary.LEAST, Boundary.GREATEST};
        for (int index : wrong) CHECK.due("nothing printed " + index, NONE, x.outputByte(index));
        x.printMarks();
        for (int index : wrong) CHECK.due("nothing in it " + index, NONE, x.outputByte(index));
        x = Check.wall("mark a 5 at -7;");
        for (int index : wrong) CHECK.due("not printed " + index, NONE, x.outputByte(index));
        CHECK.due("five bytes", 5, x.printMarks());
        CHECK.due("all", "97 58 45 55 42", x.outputByte(0) + " " + x.outputByte(1) + " " + x.outputByte(2) + " " + x.outputByte(3) + " "
                + x.outputByte(4));
        for (int index : new int[] {-1, 5, 6, Boundary.LEAST, Boundary.GREATEST}) CHECK.due("beside " + index, NONE, x.outputByte(index));
    }

    @Says(at = "Promise 52", text = "Returns a byte of the output")
    static void promise52StaysOrIsShorter() {
        SpiritWall x = Check.wall("mark a 5 at -7;mark zzzzzz 6;sight a zzzzzz fore 1;");
        x.printSight(0);
        String text = Check.output(x);
        x.level();
        x.undo();
        x.saveState();
        x.restoreState();
        Check.parse(x, "x");
        x.find();
        CHECK.due("stays", text, Check.output(x));
        Check.parse(x, "mark q 5;");
        CHECK.due("stays behind a right text", text, Check.output(x));
        printed("shorter", "q:?", x.printMarks(), x);
    }
}
