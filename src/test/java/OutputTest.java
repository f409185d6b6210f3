/** Promises 49 to 52: the output. */
public final class OutputTest {
    private static final Check CHECK = new Check("OutputTest");
    private static final int NONE = SpiritWall.NONE;

    public static void main(String[] args) {
        promise49();
        promise50();
        promise51();
        promise52();
        CHECK.end();
    }

    private static void printed(String label, String due, int length, SpiritWall x) {
        CHECK.due(label, due, Check.output(x));
        CHECK.due(label + " length", due.length(), length);
    }

    private static void promise49() {
        SpiritWall x = Check.wall("mark a 0 at -100; mark zebra 2000; mark abcdef 4000; mark c 5; error 0;"
                + "sight a zebra fore 100; sight zebra abcdef back -7;");
        printed("49 first", "a:-100* zebra:? abcdef:? c:?", x.printMarks(), x);
        x.level();
        printed("49 levelled", "a:-100* zebra:0 abcdef:-7 c:?", x.printMarks(), x);
        x.fix(3, 99999);
        x.free(0);
        printed("49 other benches", "a:-100 zebra:0 abcdef:-7 c:99999*", x.printMarks(), x);
        Check.parse(x, "mark q 7;");
        printed("49 one", "q:?", x.printMarks(), x);
        Check.parse(x, "");
        printed("49 none", "", x.printMarks(), x);
        StringBuilder text = new StringBuilder("error 0;");
        StringBuilder due = new StringBuilder();
        for (int i = 0; i < 12; i++) {
            text.append("mark abcde").append((char) ('a' + i)).append(' ').append(i).append(" at -99999;");
            due.append(i > 0 ? " " : "").append("abcde").append((char) ('a' + i)).append(":-99999*");
        }
        x = Check.wall(text.toString());
        printed("49 twelve", due.toString(), x.printMarks(), x);
    }

    private static void promise50() {
        SpiritWall x = Check.wall("mark aa 0; mark zebra 2000; mark c 4000; mark d 6000; error 0; limit 1; sight aa zebra fore 10;"
                + "sight zebra c fore 20; sight c d fore 30; sight aa c fore 31; sight zebra d fore 45; mark e 70;");
        printed("50 closes", "aa/c/zebra 1", x.printLoop(0), x);
        printed("50 does not close", "zebra/d/c -5!", x.printLoop(1), x);
        x.set(3, 999);
        printed("50 closes now", "zebra/d/c -5", x.printLoop(1), x);
        x.swap(4, 50);
        printed("50 of 0", "zebra/d/c 0", x.printLoop(1), x);
        CHECK.dueThrow("50 below", Check.INDEX, () -> x.printLoop(-1));
        CHECK.dueThrow("50 above", Check.INDEX, () -> x.printLoop(2));
        CHECK.due("50 output stays when thrown", "zebra/d/c 0", Check.output(x));
        StringBuilder text = new StringBuilder("error 0; limit 0;");
        for (int i = 0; i < 12; i++) text.append("mark abcde").append((char) ('a' + i)).append(i).append(';');
        for (int i = 0; i < 12; i++) text.append("sight abcde").append((char) ('a' + i)).append(" abcde").append((char) ('a' + (i + 1) % 12)).append(" fore -9999;");
        SpiritWall y = Check.wall(text.toString());
        printed("50 twelve", "abcdea/abcdel/abcdek/abcdej/abcdei/abcdeh/abcdeg/abcdef/abcdee/abcded/abcdec/abcdeb 119988!",
                y.printLoop(0), y);
    }

    private static void promise51() {
        SpiritWall x = Check.wall("mark aa 0; mark zebra 2000; sight aa zebra fore 10; sight zebra aa back - 9999 heat 60;"
                + "sight zebra aa fore 0 heat -40; sight aa zebra back 9999 heat 0;");
        printed("51 fore", "sight aa zebra fore 10 heat 20", x.printSight(0), x);
        printed("51 back", "sight zebra aa back -9999 heat 60", x.printSight(1), x);
        printed("51 cold", "sight zebra aa fore 0 heat -40", x.printSight(2), x);
        x.strike(3, true);
        printed("51 struck out", "- sight aa zebra back 9999 heat 0", x.printSight(3), x);
        CHECK.dueThrow("51 below", Check.INDEX, () -> x.printSight(-1));
        CHECK.dueThrow("51 above", Check.INDEX, () -> x.printSight(4));
        CHECK.due("51 output stays when thrown", "- sight aa zebra back 9999 heat 0", Check.output(x));
    }

    private static void promise52() {
        SpiritWall x = Check.wall("mark a 0 at 5;");
        CHECK.due("52 nothing yet", NONE, x.outputByte(0));
        x.printMarks();
        CHECK.due("52 bytes", "97 58 53 42", x.outputByte(0) + " " + x.outputByte(1) + " " + x.outputByte(2) + " " + x.outputByte(3));
        CHECK.due("52 behind", NONE, x.outputByte(4));
        CHECK.due("52 ahead", NONE, x.outputByte(-1));
        CHECK.due("52 far", NONE, x.outputByte(Integer.MAX_VALUE));
        CHECK.due("52 least", NONE, x.outputByte(Integer.MIN_VALUE));
        Check.parse(x, "mark b 1;");
        x.printMarks();
        CHECK.due("52 shorter text in place", "98 58 63 -1", x.outputByte(0) + " " + x.outputByte(1) + " " + x.outputByte(2) + " " + x.outputByte(3));
    }
}
