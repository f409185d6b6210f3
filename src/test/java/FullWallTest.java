import java.util.ArrayList;
import java.util.Arrays;
import java.util.List;
import java.util.Random;

/** Walls with all that may be there, and with nothing: every question that can be asked of them, against PlainWall. */
public final class FullWallTest {
    private static final Check CHECK = new Check("FullWallTest");
    /** Fewer than the 512 calls for which an object may be used. */
    private static final int MOST_CALLS = 500;
    private static final int[] AROUND = {Integer.MIN_VALUE, -1, Integer.MAX_VALUE};

    private final String label;
    private final List<Object[]> setup = new ArrayList<>();
    private SpiritWall wall;
    private PlainWall plain;
    private int calls;

    private FullWallTest(String label, String text) throws Exception {
        this.label = label;
        for (int i = 0; i < text.length(); i += 20) {
            add("feed", Check.four(text, i), Check.four(text, i + 4), Check.four(text, i + 8), Check.four(text, i + 12),
                    Check.four(text, i + 16));
        }
        add("truncate", text.length());
        add("parse");
    }

    public static void main(String[] args) throws Exception {
        new FullWallTest("no marks", "").askAll();
        new FullWallTest("one mark", "mark a 99999 at -99999;").askAll();
        new FullWallTest("twelve marks, no sights", Boundary.marks(12, 9090)).askAll();
        oneEdge();
        ring();
        star();
        clique();
        for (int seed = 1; seed <= 6; seed++) extremes(seed);
        CHECK.end();
    }

    // ---- the walls

    private static void oneEdge() throws Exception {
        FullWallTest x = new FullWallTest("forty sights of one edge", "mark a 0 at 5;mark b 99999;length 9999;bend 99;warm -99;limit 999;");
        for (int s = 0; s < 40; s++) x.add("addSight", s / 3 % 2, 1 - s / 3 % 2, s / 2 % 2, s % 5 * 4999 - 9998, s % 11 * 10 - 40);
        x.add("level");
        x.askAll();
    }

    private static void ring() throws Exception {
        FullWallTest x = new FullWallTest("a ring of twelve", zigzag() + "length 9100;bend 99;warm -99;error 999;limit 999;");
        for (int m = 0; m < 12; m++) x.add("addSight", m, (m + 1) % 12, 0, -9999, -40);
        x.add("fix", 3, 99999);
        x.add("level");
        x.add("relax", 50);
        x.askAll();
    }

    private static void star() throws Exception {
        FullWallTest x = new FullWallTest("a star and forty sights", Boundary.marks(12, 1000) + "limit 0;");
        for (int s = 0; s < 40; s++) x.add("addSight", s % 11 + 1, 0, s % 2, 9999 - s, 60 - s);
        x.add("strike", 0, true);
        x.add("strike", 39, true);
        x.add("fix", 11, -99999);
        x.add("level");
        x.askAll();
    }

    private static void clique() throws Exception {
        FullWallTest x = new FullWallTest("31 loops", Boundary.marks(10, 11111) + "error 0;limit 1;");
        for (int apart = 1; apart < 10; apart++) {
            for (int m = 0; m + apart < 10; m++) {
                if (apart != 5) x.add("addSight", m + apart, m, 0, (m * 7 + apart * 13) % 10, 20);
            }
        }
        for (int m = 0; m < 10; m += 3) x.add("fix", m, m % 2 == 0 ? 99999 : -99999);
        x.add("level");
        x.askAll();
    }

    private static void extremes(int seed) throws Exception {
        Random random = new Random(seed);
        FullWallTest x = new FullWallTest("extremes " + seed, zigzag() + "length " + (seed % 2 == 0 ? 9999 : 1) + ";bend 99;warm "
                + (seed % 3 == 0 ? 99 : -99) + ";limit " + (seed % 2 == 0 ? 999 : 0) + ";");
        for (int s = 0; s < 40; s++) {
            int from = random.nextInt(12);
            int to = (from + 1 + random.nextInt(seed < 4 ? 11 : 2)) % 12;
            x.add("addSight", from, to, random.nextInt(2), random.nextBoolean() ? 9999 : -9999, random.nextBoolean() ? 60 : -40);
        }
        if (seed % 2 == 0) x.add("tellError", -999);
        x.add("fix", random.nextInt(12), 99999);
        x.add("fix", random.nextInt(12), -99999);
        x.add("level");
        x.add("relax", seed);
        x.add("strike", random.nextInt(40), true);
        x.askAll();
    }

    /** Twelve marks, each far from the next. */
    private static String zigzag() {
        StringBuilder text = new StringBuilder();
        for (int m = 0; m < 12; m++) {
            text.append("mark ").append(Boundary.name(m)).append(' ').append(m % 2 == 0 ? m : 99999 - m).append(';');
        }
        return text.toString();
    }

    // ---- what is asked of them

    private void add(Object... call) {
        setup.add(call);
    }

    private void makeAnew() throws Exception {
        wall = new SpiritWall();
        plain = new PlainWall();
        calls = 0;
        for (Object[] call : setup) make((String) call[0], Arrays.copyOfRange(call, 1, call.length));
    }

    private void askAll() throws Exception {
        makeAnew();
        int marks = plain.count(0);
        int sights = plain.count(2);
        int loops = plain.count(6);
        for (String name : new String[] {"levelError", "worstLoop", "suspect", "outlier", "misfit", "tensest", "bridges", "meanSwings",
            "closedShare", "bestStrike", "leastLimit", "errorCode", "errorOffset"}) {
            ask(name);
        }
        askEach("count", 11);
        askEach("setting", 5);
        for (String name : new String[] {"height", "whyNone", "tension", "loopsOf", "heightIf"}) askEach(name, marks);
        askEach("closedIf", sights);
        askPairs("mark", marks, 5);
        askPairs("sight", sights, 10);
        askPairs("loop", loops, 6);
        askPairs("loopMark", loops, 12);
        askPairs("neighbour", marks, 12);
        for (String name : new String[] {"estimate", "rise", "along"}) askPairs(name, marks, marks);
        askEdges(marks);
        for (int length : new int[] {0, 1, 2, 1000, 9998, 9999, 10000}) ask("errorWith", length);
        for (int rounds : new int[] {-1, 0, 1, 2, 49, 50, 51}) ask("misfitAfter", rounds);
        askPrinted("printMarks");
        for (int loop = 0; loop <= loops; loop++) askPrinted("printLoop", loop);
        for (int sight = 0; sight <= sights; sight++) askPrinted("printSight", sight);
        ask("saveState");
        ask("restoreState");
        ask("undo");
    }

    private static int[] upTo(int number) {
        int[] values = Arrays.copyOf(AROUND, AROUND.length + number + 1);
        for (int i = 0; i <= number; i++) values[AROUND.length + i] = i;
        return values;
    }

    private void askEach(String name, int number) throws Exception {
        for (int value : upTo(number)) ask(name, value);
    }

    private void askPairs(String name, int number, int other) throws Exception {
        for (int value : upTo(number)) {
            for (int second : upTo(other)) ask(name, value, second);
        }
    }

    private void askEdges(int marks) throws Exception {
        for (int a = 0; a <= marks; a++) {
            for (int b = 0; b <= marks; b++) {
                for (int what = -1; what <= 7; what++) ask("edge", a, b, what);
            }
        }
    }

    private void askPrinted(String name, Object... arguments) throws Exception {
        if (calls + 300 > MOST_CALLS) makeAnew();
        make(name, arguments);
        for (int i = 0; i == 0 || plain.outputByte(i - 1) != PlainWall.NONE; i++) make("outputByte", i);
    }

    private void ask(String name, Object... arguments) throws Exception {
        if (calls >= MOST_CALLS) makeAnew();
        make(name, arguments);
    }

    private void make(String name, Object... arguments) throws Exception {
        calls++;
        Object due = Check.answer(plain, name, arguments);
        CHECK.due(label + ": " + name + Arrays.toString(arguments), due, Check.answer(wall, name, arguments));
    }
}
