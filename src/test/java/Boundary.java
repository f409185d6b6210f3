import java.lang.reflect.InvocationTargetException;
import java.lang.reflect.Method;
import java.util.ArrayList;
import java.util.Comparator;
import java.util.List;
import java.util.function.Supplier;

/** What the boundary tests share: their runner, walls to begin with, and all that can be seen of a wall. */
final class Boundary {
    static final int LEAST = Integer.MIN_VALUE;
    static final int GREATEST = Integer.MAX_VALUE;
    /** Numbers of no mark and of no sight of the busy wall, which has four marks and four sights. */
    static final int[] WRONG_MARKS = {-1, 4, 12, LEAST, GREATEST};
    static final int[] WRONG_SIGHTS = {-1, 4, 40, LEAST, GREATEST};
    private static final String NAMES = "abcdefghijkl";

    interface Ask {
        Object of(SpiritWall x);
    }

    private Boundary() {
    }

    static List<Method> testsOf(Class<?> test) {
        List<Method> tests = new ArrayList<>();
        for (Method method : test.getDeclaredMethods()) {
            if (method.isAnnotationPresent(Says.class)) tests.add(method);
        }
        tests.sort(Comparator.comparing(Method::getName));
        return tests;
    }

    static void runAll(Check check, Class<?> test) throws IllegalAccessException {
        for (Method method : testsOf(test)) {
            Says says = method.getAnnotation(Says.class);
            check.begin(says.at() + " (\"" + says.text() + "\", " + method.getName() + ") ");
            int before = check.made();
            try {
                method.invoke(null);
            } catch (InvocationTargetException e) {
                e.getCause().printStackTrace(System.out);
                check.due("threw", "nothing", e.getCause().getClass().getSimpleName());
            }
            check.due("checks something", true, check.made() > before);
        }
        check.end();
    }

    // ---- texts and walls

    static String name(int mark) {
        return NAMES.substring(mark, mark + 1);
    }

    /** So many marks, a, b, c and so on, at 0, at one step, at two steps ... */
    static String marks(int number, int step) {
        StringBuilder text = new StringBuilder();
        for (int m = 0; m < number; m++) text.append("mark ").append(name(m)).append(m * step).append(';');
        return text.toString();
    }

    /** The marks a at 0 and b, so far from it. */
    static SpiritWall two(int distance, String settings) {
        return Check.wall("mark a 0;mark b " + distance + ";" + settings);
    }

    /** Twelve marks and forty sights, of which no two lie between the same marks. */
    static SpiritWall full() {
        SpiritWall x = Check.wall("error 0;" + marks(12, 2));
        int sights = 0;
        for (int apart = 1; apart < 12; apart++) {
            for (int m = 0; m + apart < 12 && sights < 40; m++) {
                x.addSight(m, m + apart, 0, 0, 20);
                sights++;
            }
        }
        return x;
    }

    /** A wall that holds something of all that a wall can hold. */
    static SpiritWall busy() {
        SpiritWall x = Check.wall("limit 1;mark a 0 at 100;mark b 1500;mark c 2500;mark d 9000;sight a b fore 50;"
                + "sight b c fore 24;sight c b fore -16;sight a c fore 75;");
        Check.parse(x, "mark a 1;mark a");
        x.strike(1, true);
        x.saveState();
        x.level();
        x.fix(3, -7);
        x.tellError(5);
        x.set(0, 77);
        x.undo();
        x.printMarks();
        Check.feed(x, "mark q 5 at 7;");
        return x;
    }

    // ---- all that can be seen

    /** Settings, error, benches, heights, sights and the number of changes. */
    static String state(SpiritWall x) {
        StringBuilder text = new StringBuilder();
        for (int what = 0; what < 5; what++) text.append(x.setting(what)).append(' ');
        text.append(x.levelError()).append(" changes ").append(x.count(9));
        for (int m = 0; m < x.count(0); m++) text.append(", ").append(x.mark(m, 1)).append(' ').append(x.height(m));
        for (int s = 0; s < x.count(2); s++) text.append(", ").append(sight(x, s));
        return text.toString();
    }

    static String sight(SpiritWall x, int sight) {
        StringBuilder text = new StringBuilder();
        for (int what = 0; what < 6; what++) text.append(what > 0 ? " " : "").append(x.sight(sight, what));
        return text.toString();
    }

    /** The state, those that can be undone, the saved one, and the setup in the buffer; all this is used up. */
    static String held(SpiritWall x) {
        StringBuilder text = new StringBuilder(state(x));
        while (x.count(9) > 0) {
            x.undo();
            text.append("\nundone ").append(state(x));
        }
        text.append("\nsaved ").append(answer(x, y -> y.restoreState())).append(' ').append(state(x));
        text.append("\nbuffer ").append(x.parse()).append(' ').append(x.errorCode()).append(' ').append(x.errorOffset());
        x.printMarks();
        return text.append(' ').append(Check.output(x)).toString();
    }

    /** All of a wall, which is used up. */
    static String all(SpiritWall x) {
        String first = "error " + x.errorCode() + " " + x.errorOffset() + "\noutput " + Check.output(x) + "\n";
        return first + held(x);
    }

    static String answer(SpiritWall x, Ask ask) {
        try {
            return String.valueOf(ask.of(x));
        } catch (RuntimeException e) {
            return e.getClass().getSimpleName();
        }
    }

    // ---- calls that are refused, and calls that change nothing

    /** The call throws, and the wall is then as one for which it was not made. */
    static void refused(Check check, String label, String due, Supplier<SpiritWall> made, Ask call) {
        SpiritWall x = made.get();
        check.due(label + " is refused", due, answer(x, call));
        check.due(label + " changes nothing", all(made.get()), all(x));
    }

    static void refused(Check check, String label, String due, Ask call) {
        refused(check, label, due, Boundary::busy, call);
    }

    /** The call answers as is due, and the wall is then as one for which it was not made. */
    static void unchanged(Check check, String label, Object due, Supplier<SpiritWall> made, Ask call) {
        SpiritWall x = made.get();
        check.due(label, String.valueOf(due), answer(x, call));
        check.due(label + " changes nothing", all(made.get()), all(x));
    }
}
