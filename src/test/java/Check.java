import java.lang.reflect.InvocationTargetException;

/** Counts and tells the answers of a test that are not as due. */
final class Check {
    static final String INDEX = "IndexOutOfBoundsException";
    static final String ARGUMENT = "IllegalArgumentException";
    static final String STATE = "IllegalStateException";

    interface Call {
        Object made();
    }

    private final String test;
    private int checks = 0;
    private int wrong = 0;
    private String beginning = "";

    Check(String test) {
        this.test = test;
    }

    /** From now on each label stands behind this. */
    void begin(String words) {
        beginning = words;
    }

    int made() {
        return checks;
    }

    void due(String label, Object due, Object got) {
        checks++;
        if (same(due, got)) return;
        wrong++;
        System.out.println(test + ": " + beginning + label + " answered " + got + ", due is " + due);
    }

    void dueThrow(String label, String due, Call call) {
        String got;
        try {
            got = "no exception but " + call.made();
        } catch (RuntimeException e) {
            got = e.getClass().getSimpleName();
        }
        due(label, due, got);
    }

    /** What a call by its name answers or throws. */
    static Object answer(Object object, String name, Object... arguments) throws ReflectiveOperationException {
        Class<?>[] types = new Class<?>[arguments.length];
        for (int i = 0; i < types.length; i++) types[i] = arguments[i] instanceof Boolean ? boolean.class : int.class;
        try {
            return object.getClass().getMethod(name, types).invoke(object, arguments);
        } catch (InvocationTargetException e) {
            return "throws." + e.getCause().getClass().getSimpleName();
        }
    }

    private static boolean same(Object due, Object got) {
        if (due instanceof Number && got instanceof Number && isWhole(due) && isWhole(got)) {
            return ((Number) due).longValue() == ((Number) got).longValue();
        }
        return due.equals(got);
    }

    private static boolean isWhole(Object number) {
        return number instanceof Integer || number instanceof Long;
    }

    void end() {
        System.out.println(test + ": " + checks + " checks, " + wrong + " wrong");
        if (wrong > 0) System.exit(1);
    }

    /** Puts a text into the input buffer, byte by byte as it stands. */
    static void feed(SpiritWall wall, String text) {
        for (int i = 0; i < text.length(); i += 20) {
            wall.feed(four(text, i), four(text, i + 4), four(text, i + 8), four(text, i + 12), four(text, i + 16));
        }
        wall.truncate(text.length());
    }

    static int four(String text, int start) {
        int four = 0;
        for (int i = start; i < start + 4; i++) four = four << 8 | (i < text.length() ? text.charAt(i) & 255 : 0);
        return four;
    }

    static int parse(SpiritWall wall, String text) {
        feed(wall, text);
        return wall.parse();
    }

    static SpiritWall wall(String text) {
        SpiritWall wall = new SpiritWall();
        if (parse(wall, text) == SpiritWall.NONE) throw new AssertionError("wrong text: " + text);
        return wall;
    }

    static String output(SpiritWall wall) {
        StringBuilder text = new StringBuilder();
        for (int i = 0; wall.outputByte(i) != SpiritWall.NONE; i++) text.append((char) wall.outputByte(i));
        return text.toString();
    }
}
