import java.lang.reflect.Method;
import java.util.ArrayList;
import java.util.Arrays;
import java.util.Comparator;
import java.util.List;
import java.util.Random;

/** Makes the same runs of calls on SpiritWall and on PlainWall, which must answer the same. */
public final class RandomRunsTest {
    /** An object may be used for 512 calls; a text that is fed and parsed takes up to 50. */
    private static final int MOST_CALLS = 460;
    private static final String[] NAMES = {"a", "b", "wall", "door", "nail", "q", "zz", "corner", "m", "lamp", "hook", "x"};
    private static final List<String> QUERIES = List.of("printMarks", "misfit", "levelError", "suspect", "worstLoop",
            "outlier", "tensest", "leastLimit", "bridges", "closedShare", "meanSwings");

    private final Random random;
    private final Check check;
    private final SpiritWall wall = new SpiritWall();
    private final PlainWall plain = new PlainWall();
    private final List<String> made = new ArrayList<>();
    private boolean wrong = false;

    private RandomRunsTest(long seed, Check check) {
        random = new Random(seed);
        this.check = check;
    }

    public static void main(String[] args) throws Exception {
        int runs = args.length > 0 ? Integer.parseInt(args[0]) : 1200;
        long first = args.length > 1 ? Long.parseLong(args[1]) : 1;
        Check check = new Check("RandomRunsTest");
        for (long seed = first; seed < first + runs; seed++) new RandomRunsTest(seed, check).run(seed);
        check.end();
    }

    private void run(long seed) throws Exception {
        List<Method> methods = new ArrayList<>(Arrays.asList(SpiritWall.class.getDeclaredMethods()));
        methods.removeIf(m -> !java.lang.reflect.Modifier.isPublic(m.getModifiers()));
        methods.sort(Comparator.comparing(Method::getName));
        feedText(text(), "parse");
        if (random.nextInt(8) == 0) fillUp();
        while (made.size() < MOST_CALLS && !wrong) {
            int kind = random.nextInt(100);
            if (kind == 0) {
                feedText(text(), "parse");
            } else if (kind < 4) {
                feedText(spoilt(text()), "parse");
            } else if (kind < 6) {
                feedText(random.nextInt(4) == 0 ? "nobody" : NAMES[random.nextInt(12)], "find");
            } else {
                callAny(methods.get(random.nextInt(methods.size())));
            }
        }
        if (wrong) System.out.println("seed " + seed + ": " + String.join(", ", made));
    }

    private void callAny(Method method) throws Exception {
        if (List.of("feed", "parse", "find", "truncate").contains(method.getName()) && random.nextInt(4) > 0) return;
        Object[] arguments = new Object[method.getParameterCount()];
        for (int i = 0; i < arguments.length; i++) {
            boolean flag = method.getParameterTypes()[i] == boolean.class;
            arguments[i] = flag ? (Object) random.nextBoolean() : (Object) argument(method.getName(), i);
        }
        call(method.getName(), arguments);
        if (List.of("printMarks", "printLoop", "printSight").contains(method.getName())) callOutput();
        if (random.nextInt(8) == 0) call(QUERIES.get(random.nextInt(QUERIES.size())));
    }

    /** Adds sights until there are forty, and tries one more. */
    private void fillUp() throws Exception {
        for (int i = plain.count(2); i <= 40; i++) {
            Object[] arguments = new Object[5];
            for (int place = 0; place < 5; place++) arguments[place] = argument("addSight", place);
            if (arguments[0].equals(arguments[1])) arguments[1] = 0;
            call("addSight", arguments);
        }
    }

    private void callOutput() throws Exception {
        for (int i = 0; i < 8; i++) call("outputByte", random.nextInt(40));
    }

    private int argument(String name, int place) {
        if (random.nextInt(40) == 0) return new int[] {-1, 12, 40, 100000, Integer.MIN_VALUE, Integer.MAX_VALUE}[random.nextInt(6)];
        switch (name) {
            case "feed": return random.nextInt();
            case "truncate": return random.nextInt(60);
            case "count": return random.nextInt(12);
            case "setting": return random.nextInt(5);
            case "mark": return place == 0 ? markNumber() : random.nextInt(5);
            case "sight": return place == 0 ? sightNumber() : random.nextInt(10);
            case "edge": return place < 2 ? markNumber() : random.nextInt(7);
            case "loop": return random.nextInt(6);
            case "loopMark": return random.nextInt(6);
            case "printLoop": return random.nextInt(8);
            case "neighbour": return place == 0 ? markNumber() : random.nextInt(5);
            case "strike": case "closedIf": case "printSight": return sightNumber();
            case "swap": return place == 0 ? sightNumber() : reading();
            case "fix": return place == 0 ? markNumber() : random.nextInt(2001) - 1000;
            case "relax": case "misfitAfter": return random.nextInt(52);
            case "errorWith": return 1 + random.nextInt(9999);
            case "tellError": return random.nextInt(1999) - 999;
            case "set": return place == 0 ? random.nextInt(4) : random.nextInt(5) == 0 ? random.nextInt(10000) : random.nextInt(100);
            case "outputByte": return random.nextInt(100);
            case "addSight": return place < 2 ? markNumber() : place == 2 ? random.nextInt(2) : place == 3 ? reading() : random.nextInt(101) - 40;
            default: return markNumber();
        }
    }

    private int markNumber() {
        int marks = Math.max(1, plain.count(0));
        return random.nextInt(marks);
    }

    private int sightNumber() {
        return random.nextInt(Math.max(1, plain.count(2)));
    }

    private int reading() {
        return random.nextInt(3) == 0 ? random.nextInt(19999) - 9999 : random.nextInt(41) - 20;
    }

    private void feedText(String text, String call) throws Exception {
        call("truncate", 0);
        for (int i = 0; i < text.length(); i += 20) {
            call("feed", Check.four(text, i), Check.four(text, i + 4), Check.four(text, i + 8), Check.four(text, i + 12),
                    Check.four(text, i + 16));
        }
        call("truncate", text.length());
        call(call);
        call("errorCode");
        call("errorOffset");
    }

    private void call(String name, Object... arguments) throws Exception {
        if (wrong) return;
        made.add(name + Arrays.toString(arguments));
        Object due = Check.answer(plain, name, arguments);
        Object got = Check.answer(wall, name, arguments);
        check.due(made.get(made.size() - 1), due, got);
        wrong = !due.equals(got);
    }

    // ---- texts

    private String text() {
        StringBuilder text = new StringBuilder();
        int marks = random.nextInt(20) == 0 ? random.nextInt(3) : 3 + random.nextInt(random.nextInt(2) == 0 ? 3 : 10);
        int spread = random.nextBoolean() ? 99999 : 3000;
        if (random.nextInt(3) == 0) text.append("error ").append(random.nextInt(41) - 20).append(';');
        if (random.nextBoolean()) text.append("bend ").append(random.nextInt(100)).append(";\n");
        if (random.nextBoolean()) text.append("warm ").append(random.nextInt(199) - 99).append("; ");
        if (random.nextBoolean()) text.append("length ").append(1 + random.nextInt(random.nextBoolean() ? 9999 : 900)).append(';');
        int step = random.nextBoolean() ? 1 : 250;
        List<Integer> places = new ArrayList<>();
        for (int m = 0; m < marks; m++) {
            int place = random.nextInt(spread + 1) / step * step;
            if (places.contains(place)) place = 99999 - m;
            places.add(place);
            text.append("mark ").append(NAMES[m]).append(' ').append(place);
            if (random.nextInt(4) == 0) text.append(" at ").append(random.nextInt(1001) - 500);
            text.append(';');
        }
        int sights = marks < 2 ? 0 : random.nextInt(random.nextInt(8) == 0 ? 41 : 16);
        for (int s = 0; s < sights && text.length() < 850; s++) text.append(sightText(marks));
        if (random.nextBoolean()) text.append(" limit ").append(random.nextInt(random.nextBoolean() ? 1000 : 30)).append(" ; ");
        return text.toString();
    }

    private String sightText(int marks) {
        int from = random.nextInt(marks);
        int to = (from + 1 + random.nextInt(marks - 1)) % marks;
        String heat = random.nextInt(3) == 0 ? " heat " + (random.nextInt(101) - 40) : "";
        return "sight " + NAMES[from] + " " + NAMES[to] + (random.nextBoolean() ? " fore " : " back ") + reading() + heat + ";";
    }

    private String spoilt(String text) {
        String[] pieces = {"mark", "sight", "at", "fore", "back", "heat", "length", "error", "bend", "warm", "limit", "a", "b",
            "door", "toolong", "abcdefg", "5", "99999", "100000", "0", "61", "-41", "10000", "-", "- ", ";", ";;", "\t", "A",
            "\u00e9", "\u0000", "", " ", "\n", "length 1;", "mark a 1;", "limit 1000;", "bend -1;", "sight a a fore 1;"};
        StringBuilder spoilt = new StringBuilder(text);
        int changes = 1 + random.nextInt(2);
        for (int i = 0; i < changes; i++) {
            int start = random.nextInt(spoilt.length() + 1);
            int end = Math.min(spoilt.length(), start + random.nextInt(4));
            if (random.nextInt(5) == 0) end = spoilt.length();
            spoilt.replace(start, end, pieces[random.nextInt(pieces.length)]);
        }
        return spoilt.substring(0, Math.min(spoilt.length(), 880));
    }
}
