import java.math.BigInteger;
import java.util.ArrayList;
import java.util.Arrays;
import java.util.Collections;
import java.util.HashMap;
import java.util.HashSet;
import java.util.List;
import java.util.Map;
import java.util.Set;
import java.util.TreeMap;
import java.util.regex.Matcher;
import java.util.regex.Pattern;

/** The document once more, written apart from the class and slowly, to be compared with it. */
public final class PlainWall {
    static final int NONE = -1;
    static final int NO_HEIGHT = -10000000;
    static final List<String> QUOTED = List.of("mark", "at", "sight", "fore", "back", "heat", "length", "error", "bend",
            "warm", "limit");

    record Sight(int from, int to, int end, int reading, int heat, boolean struck) {
    }

    static final class Setup {
        int[] settings = {1000, 0, 0, 10};
        Integer told = null;
        Map<Integer, Long> heights = new TreeMap<>();
        Set<Integer> benches = new HashSet<>();
        List<Sight> sights = new ArrayList<>();

        Setup copy() {
            Setup copy = new Setup();
            copy.settings = settings.clone();
            copy.told = told;
            copy.heights = new TreeMap<>(heights);
            copy.benches = new HashSet<>(benches);
            copy.sights = new ArrayList<>(sights);
            return copy;
        }
    }

    static final class Fault extends Exception {
        private static final long serialVersionUID = 1;
        final int code;
        final int offset;

        Fault(int code, int offset) {
            this.code = code;
            this.offset = offset;
        }
    }

    private String buffer = "";
    private String printed = "";
    private int code = 0;
    private int offset = NONE;
    private List<String> names = new ArrayList<>();
    private List<Integer> places = new ArrayList<>();
    private Setup setup = new Setup();
    private Setup saved = null;
    private final List<Setup> undoable = new ArrayList<>();

    public int feed(int a, int b, int c, int d, int e) {
        if (buffer.length() + 20 > 900) return NONE;
        for (int word : new int[] {a, b, c, d, e}) {
            for (int shift = 24; shift >= 0; shift -= 8) buffer += (char) (word >> shift & 255);
        }
        return buffer.length();
    }

    public boolean truncate(int length) {
        if (length < 0 || length > buffer.length()) return false;
        buffer = buffer.substring(0, length);
        return true;
    }

    // ---- the setup text

    private record Token(String text, int offset) {
        boolean isNumber() {
            return text.matches("[0-9]{1,5}");
        }

        boolean isName() {
            return text.matches("[a-z]{1,6}") && !QUOTED.contains(text);
        }
    }

    private List<Token> tokens;
    private int at;
    private List<String> newNames;
    private List<Integer> newPlaces;
    private Setup newSetup;

    public int parse() {
        String text = buffer;
        buffer = "";
        tokens = new ArrayList<>();
        Matcher matcher = Pattern.compile("[a-z]+|[0-9]+|[^ \n]", Pattern.DOTALL).matcher(text);
        while (matcher.find()) tokens.add(new Token(matcher.group(), matcher.start()));
        tokens.add(new Token("", text.length()));
        at = 0;
        newNames = new ArrayList<>();
        newPlaces = new ArrayList<>();
        newSetup = new Setup();
        try {
            readAll();
        } catch (Fault fault) {
            code = fault.code;
            offset = fault.offset;
            return NONE;
        }
        code = 0;
        offset = NONE;
        names = newNames;
        places = newPlaces;
        setup = newSetup;
        saved = null;
        undoable.clear();
        return names.size();
    }

    private void readAll() throws Fault {
        Set<String> kinds = new HashSet<>();
        while (!tokens.get(at).text.isEmpty()) {
            Token first = tokens.get(at);
            boolean many = first.text.equals("mark") || first.text.equals("sight");
            if (!many && !List.of("length", "error", "bend", "warm", "limit").contains(first.text)) fail(1);
            if (!many && !kinds.add(first.text)) fail(3);
            if (first.text.equals("mark") && newNames.size() == 12) fail(5);
            if (first.text.equals("sight") && newSetup.sights.size() == 40) fail(5);
            at++;
            switch (first.text) {
                case "mark" -> readMark();
                case "sight" -> readSight();
                case "length" -> newSetup.settings[0] = readNumber(1, 9999);
                case "bend" -> newSetup.settings[1] = readNumber(0, 99);
                case "warm" -> newSetup.settings[2] = readSigned(-99, 99);
                case "limit" -> newSetup.settings[3] = readNumber(0, 999);
                default -> newSetup.told = readSigned(-999, 999);
            }
            if (!take(";")) fail(1);
        }
    }

    private void readMark() throws Fault {
        Token name = tokens.get(at);
        if (!name.isName()) fail(1);
        if (newNames.contains(name.text)) fail(3);
        at++;
        if (!tokens.get(at).isNumber()) fail(1);
        int place = Integer.parseInt(tokens.get(at).text);
        if (newPlaces.contains(place)) fail(3);
        at++;
        newNames.add(name.text);
        newPlaces.add(place);
        if (!take("at")) return;
        newSetup.benches.add(newNames.size() - 1);
        newSetup.heights.put(newNames.size() - 1, (long) readSigned(-99999, 99999));
    }

    private void readSight() throws Fault {
        int[] marks = new int[2];
        for (int i = 0; i < 2; i++) {
            Token name = tokens.get(at);
            if (!name.isName()) fail(1);
            marks[i] = newNames.indexOf(name.text);
            if (i == 1 && marks[0] == marks[1]) fail(3);
            if (marks[i] < 0) fail(4);
            at++;
        }
        int end = tokens.get(at).text.equals("back") ? 1 : 0;
        if (!take("fore") && !take("back")) fail(1);
        int reading = readSigned(-9999, 9999);
        int heat = take("heat") ? readSigned(-40, 60) : 20;
        newSetup.sights.add(new Sight(marks[0], marks[1], end, reading, heat, false));
    }

    private int readSigned(int least, int greatest) throws Fault {
        return take("-") ? -readNumber(-greatest, -least) : readNumber(least, greatest);
    }

    private int readNumber(int least, int greatest) throws Fault {
        if (!tokens.get(at).isNumber()) fail(1);
        int value = Integer.parseInt(tokens.get(at).text);
        if (value < least || value > greatest) fail(2);
        at++;
        return value;
    }

    private boolean take(String text) {
        if (!tokens.get(at).text.equals(text)) return false;
        at++;
        return true;
    }

    private void fail(int newCode) throws Fault {
        throw new Fault(newCode, tokens.get(at).offset);
    }

    public int errorCode() {
        return code;
    }

    public int errorOffset() {
        return offset;
    }

    // ---- sights, edges and loops of a setup

    static int floor(long dividend, long divisor) {
        BigInteger[] parts = BigInteger.valueOf(dividend).divideAndRemainder(BigInteger.valueOf(divisor));
        boolean below = parts[1].signum() != 0 && parts[1].signum() != Long.signum(divisor);
        return parts[0].subtract(below ? BigInteger.ONE : BigInteger.ZERO).intValueExact();
    }

    private int apart(int mark, int other) {
        return Math.abs(places.get(mark) - places.get(other));
    }

    private int bend(Setup of, Sight sight) {
        long d = apart(sight.from, sight.to);
        return floor(of.settings[1] * d * d, 100000000);
    }

    private int warmth(Setup of, Sight sight) {
        return floor((long) of.settings[2] * (sight.heat - 20) * apart(sight.from, sight.to), 100000);
    }

    private int pure(Setup of, Sight sight) {
        return sight.reading - bend(of, sight) - warmth(of, sight);
    }

    private int swings(int distance, int length) {
        int swings = 0;
        while ((long) swings * length < distance) swings++;
        return swings;
    }

    private int rise(Setup of, Sight sight) {
        boolean in = swings(apart(sight.from, sight.to), of.settings[0]) % 2 == 1;
        int part = !in ? 0 : sight.end == 0 ? error(of) : -error(of);
        return pure(of, sight) - part;
    }

    private List<Sight> between(Setup of, int mark, int other) {
        List<Sight> found = new ArrayList<>();
        for (Sight sight : of.sights) {
            boolean there = sight.from == mark && sight.to == other || sight.from == other && sight.to == mark;
            if (there && !sight.struck && mark != other) found.add(sight);
        }
        return found;
    }

    private List<int[]> edges(Setup of) {
        List<int[]> edges = new ArrayList<>();
        for (int a = 0; a < names.size(); a++) {
            for (int b = a + 1; b < names.size(); b++) {
                if (!between(of, a, b).isEmpty()) edges.add(new int[] {a, b});
            }
        }
        return edges;
    }

    private final Map<List<Object>, Object> known = new HashMap<>();

    /** Answers of a setup are kept as long as it is the same object, unchanged; a call begins anew. */
    private void forget() {
        known.clear();
    }

    private int error(Setup of) {
        if (of.told != null) return of.told;
        List<Object> key = List.of("error", System.identityHashCode(of));
        return (Integer) known.computeIfAbsent(key, k -> found(of, of.settings[0]));
    }

    private int found(Setup of, int length) {
        List<Integer> estimates = new ArrayList<>();
        for (int[] edge : edges(of)) {
            Integer estimate = estimate(of, edge[0], edge[1], length);
            if (estimate != null) estimates.add(estimate);
        }
        Collections.sort(estimates);
        return estimates.isEmpty() ? 0 : estimates.get((estimates.size() + 1) / 2 - 1);
    }

    private Integer estimate(Setup of, int a, int b, int length) {
        if (a == b || swings(apart(a, b), length) % 2 == 0) return null;
        List<Integer> with = new ArrayList<>();
        List<Integer> against = new ArrayList<>();
        for (Sight sight : between(of, a, b)) {
            boolean fromGreater = sight.from > sight.to;
            int pure = fromGreater ? -pure(of, sight) : pure(of, sight);
            boolean isWith = sight.end == 0 ? !fromGreater : fromGreater;
            (isWith ? with : against).add(pure);
        }
        if (with.isEmpty() || against.isEmpty()) return null;
        return floor(mean(with) - mean(against), 2);
    }

    private static int mean(List<Integer> numbers) {
        long sum = 0;
        for (int number : numbers) sum += number;
        return floor(sum, numbers.size());
    }

    private int edgeRise(Setup of, int mark, int other) {
        List<Object> key = List.of("rise", System.identityHashCode(of), mark, other);
        Object kept = known.get(key);
        if (kept != null) return (Integer) kept;
        int least = Math.min(mark, other);
        List<Integer> rises = new ArrayList<>();
        for (Sight sight : between(of, mark, other)) rises.add(sight.from == least ? rise(of, sight) : -rise(of, sight));
        int rise = mark == least ? mean(rises) : -mean(rises);
        known.put(key, rise);
        return rise;
    }

    private List<int[]> forest(Setup of) {
        List<int[]> sorted = new ArrayList<>(edges(of));
        sorted.sort((x, y) -> {
            if (apart(x[0], x[1]) != apart(y[0], y[1])) return Integer.compare(apart(x[0], x[1]), apart(y[0], y[1]));
            return x[0] != y[0] ? Integer.compare(x[0], y[0]) : Integer.compare(x[1], y[1]);
        });
        List<int[]> taken = new ArrayList<>();
        for (int[] edge : sorted) {
            if (path(taken, edge[0], edge[1]) == null) taken.add(edge);
        }
        return taken;
    }

    private List<Integer> path(List<int[]> by, int from, int to) {
        return path(by, from, to, NONE);
    }

    private List<Integer> path(List<int[]> by, int from, int to, int before) {
        if (from == to) return new ArrayList<>(List.of(from));
        for (int[] edge : by) {
            int next = edge[0] == from ? edge[1] : edge[1] == from ? edge[0] : NONE;
            if (next == NONE || next == before) continue;
            List<Integer> rest = path(by, next, to, from);
            if (rest == null) continue;
            rest.add(0, from);
            return rest;
        }
        return null;
    }

    private List<List<Integer>> loops(Setup of) {
        List<int[]> forest = forest(of);
        List<List<Integer>> loops = new ArrayList<>();
        for (int[] edge : edges(of)) {
            if (holds(forest, edge)) continue;
            List<Integer> loop = path(forest, edge[1], edge[0]);
            loop.add(0, loop.remove(loop.size() - 1));
            loops.add(loop);
        }
        return loops;
    }

    private static boolean holds(List<int[]> edges, int[] edge) {
        for (int[] other : edges) {
            if (Arrays.equals(other, edge)) return true;
        }
        return false;
    }

    private static List<int[]> edgesOf(List<Integer> loop) {
        List<int[]> edges = new ArrayList<>();
        for (int i = 0; i < loop.size(); i++) {
            int a = loop.get(i);
            int b = loop.get((i + 1) % loop.size());
            edges.add(new int[] {Math.min(a, b), Math.max(a, b)});
        }
        return edges;
    }

    private int way(List<Integer> loop) {
        int way = 0;
        for (int[] edge : edgesOf(loop)) way += apart(edge[0], edge[1]);
        return way;
    }

    private int misclosure(Setup of, List<Integer> loop) {
        int sum = 0;
        for (int i = 0; i < loop.size(); i++) sum += edgeRise(of, loop.get(i), loop.get((i + 1) % loop.size()));
        return sum;
    }

    private boolean closes(Setup of, List<Integer> loop, int limit) {
        BigInteger square = BigInteger.valueOf(misclosure(of, loop)).pow(2).multiply(BigInteger.valueOf(1000));
        return square.compareTo(BigInteger.valueOf(way(loop)).multiply(BigInteger.valueOf(limit).pow(2))) <= 0;
    }

    private int closing(Setup of) {
        int closing = 0;
        for (List<Integer> loop : loops(of)) {
            if (closes(of, loop, of.settings[3])) closing++;
        }
        return closing;
    }

    private Set<Integer> part(Setup of, int mark) {
        Set<Integer> part = new HashSet<>(List.of(mark));
        for (int i = 0; i < names.size(); i++) {
            for (int[] edge : edges(of)) {
                if (part.contains(edge[0]) || part.contains(edge[1])) part.addAll(List.of(edge[0], edge[1]));
            }
        }
        return part;
    }

    // ---- heights

    private void levelOut(Setup of) {
        of.heights.keySet().retainAll(of.benches);
        Map<Integer, Integer> ways = new HashMap<>();
        for (int bench : of.benches) ways.put(bench, 0);
        List<int[]> edges = edges(of);
        while (true) {
            int[] best = null;
            for (int[] edge : edges) {
                for (int turn = 0; turn < 2; turn++) {
                    int from = edge[turn];
                    int to = edge[1 - turn];
                    if (!of.heights.containsKey(from) || of.heights.containsKey(to)) continue;
                    int[] next = {ways.get(from) + apart(from, to), to, from};
                    if (best == null || Arrays.compare(next, best) < 0) best = next;
                }
            }
            if (best == null) return;
            of.heights.put(best[1], of.heights.get(best[2]) + edgeRise(of, best[2], best[1]));
            ways.put(best[1], best[0]);
        }
    }

    private int relaxBy(Setup of, int rounds) {
        for (int round = 0; round < rounds; round++) {
            Map<Integer, Long> before = new TreeMap<>(of.heights);
            for (int mark = 0; mark < names.size(); mark++) {
                if (of.heights.containsKey(mark) && !of.benches.contains(mark)) relaxMark(of, mark);
            }
            if (before.equals(of.heights)) return round;
        }
        return rounds;
    }

    private void relaxMark(Setup of, int mark) {
        BigInteger sum = BigInteger.ZERO;
        BigInteger weights = BigInteger.ZERO;
        for (int other = 0; other < names.size(); other++) {
            if (!of.heights.containsKey(other) || between(of, mark, other).isEmpty()) continue;
            BigInteger weight = BigInteger.valueOf(weight(of, mark, other));
            sum = sum.add(weight.multiply(BigInteger.valueOf(of.heights.get(other) + edgeRise(of, other, mark))));
            weights = weights.add(weight);
        }
        if (weights.signum() == 0) return;
        BigInteger[] parts = sum.divideAndRemainder(weights);
        of.heights.put(mark, parts[0].longValueExact() - (parts[1].signum() < 0 ? 1 : 0));
    }

    private int weight(Setup of, int mark, int other) {
        return between(of, mark, other).size() * (1000000 / apart(mark, other));
    }

    private long misfit(Setup of) {
        BigInteger sum = BigInteger.ZERO;
        for (int[] edge : edges(of)) {
            if (!of.heights.containsKey(edge[0]) || !of.heights.containsKey(edge[1])) continue;
            long difference = edgeRise(of, edge[0], edge[1]) - of.heights.get(edge[1]) + of.heights.get(edge[0]);
            sum = sum.add(BigInteger.valueOf(difference).pow(2));
        }
        return sum.longValueExact();
    }

    // ---- what there is

    private void needMark(int mark) {
        if (mark < 0 || mark >= names.size()) throw new IndexOutOfBoundsException();
    }

    private void needSight(int sight) {
        if (sight < 0 || sight >= setup.sights.size()) throw new IndexOutOfBoundsException();
    }

    private void needLoop(int loop) {
        if (loop < 0 || loop >= loops(setup).size()) throw new IndexOutOfBoundsException();
    }

    private static void need(int value, int least, int greatest) {
        if (value < least || value > greatest) throw new IllegalArgumentException();
    }

    private static int height(Setup of, int mark) {
        return of.heights.containsKey(mark) ? Math.toIntExact(of.heights.get(mark)) : NO_HEIGHT;
    }

    public int count(int what) {
        forget();
        Set<Set<Integer>> parts = new HashSet<>();
        for (int m = 0; m < names.size(); m++) parts.add(part(setup, m));
        int[] counts = {names.size(), setup.benches.size(), setup.sights.size(),
            (int) setup.sights.stream().filter(Sight::struck).count(), edges(setup).size(), forest(setup).size(),
            loops(setup).size(), closing(setup), setup.heights.size(), undoable.size(), parts.size()};
        return what < 0 || what > 10 ? NONE : counts[what];
    }

    public int setting(int what) {
        if (what == 4) return setup.told == null ? 0 : 1;
        return what < 0 || what > 4 ? NONE : setup.settings[what];
    }

    public int levelError() {
        forget();
        return error(setup);
    }

    public int estimate(int mark, int other) {
        needMark(mark);
        needMark(other);
        Integer estimate = estimate(setup, Math.min(mark, other), Math.max(mark, other), setup.settings[0]);
        return estimate == null ? NO_HEIGHT : estimate;
    }

    public int find() {
        String name = buffer;
        buffer = "";
        return names.indexOf(name);
    }

    public int mark(int mark, int what) {
        needMark(mark);
        need(what, 0, 4);
        if (what == 0) return places.get(mark);
        if (what == 1) return setup.benches.contains(mark) ? 1 : 0;
        if (what == 2) return (int) edges(setup).stream().filter(e -> e[0] == mark || e[1] == mark).count();
        if (what == 4) return Collections.min(part(setup, mark));
        return (int) setup.sights.stream().filter(s -> !s.struck && (s.from == mark || s.to == mark)).count();
    }

    public int height(int mark) {
        needMark(mark);
        return height(setup, mark);
    }

    public int whyNone(int mark) {
        needMark(mark);
        for (int other : part(setup, mark)) {
            if (setup.benches.contains(other)) return 0;
        }
        List<Sight> there = setup.sights.stream().filter(s -> s.from == mark || s.to == mark).toList();
        if (there.isEmpty()) return 1;
        return there.stream().allMatch(Sight::struck) ? 2 : 3;
    }

    public int sight(int number, int what) {
        needSight(number);
        need(what, 0, 9);
        forget();
        Sight sight = setup.sights.get(number);
        return new int[] {sight.from, sight.to, sight.end, sight.reading, sight.heat, sight.struck ? 1 : 0,
            swings(apart(sight.from, sight.to), setup.settings[0]), bend(setup, sight), warmth(setup, sight),
            rise(setup, sight)}[what];
    }

    public int rise(int mark, int other) {
        needMark(mark);
        needMark(other);
        forget();
        return between(setup, mark, other).isEmpty() ? NO_HEIGHT : edgeRise(setup, mark, other);
    }

    private int loopsWith(int[] edge, boolean alsoClosing) {
        int found = 0;
        for (List<Integer> loop : loops(setup)) {
            boolean counted = alsoClosing || !closes(setup, loop, setup.settings[3]);
            if (counted && holds(edgesOf(loop), edge)) found++;
        }
        return found;
    }

    public int edge(int mark, int other, int what) {
        needMark(mark);
        needMark(other);
        need(what, 0, 6);
        forget();
        List<Sight> sights = between(setup, mark, other);
        if (sights.isEmpty()) return NONE;
        int[] edge = {Math.min(mark, other), Math.max(mark, other)};
        if (what == 0) return sights.size();
        if (what == 1) return apart(mark, other);
        if (what == 2) return weight(setup, mark, other);
        if (what == 3) return holds(forest(setup), edge) ? 1 : 0;
        if (what == 4) return loopsWith(edge, true);
        if (what == 5) return loopsWith(edge, false);
        List<Integer> rises = new ArrayList<>();
        for (Sight sight : sights) rises.add(sight.from == edge[0] ? rise(setup, sight) : -rise(setup, sight));
        return Collections.max(rises) - Collections.min(rises);
    }

    public int along(int mark, int other) {
        needMark(mark);
        needMark(other);
        forget();
        List<Integer> path = path(forest(setup), mark, other);
        if (path == null) return NO_HEIGHT;
        int sum = 0;
        for (int i = 1; i < path.size(); i++) sum += edgeRise(setup, path.get(i - 1), path.get(i));
        return sum;
    }

    public int loop(int number, int what) {
        forget();
        needLoop(number);
        need(what, 0, 5);
        List<Integer> loop = loops(setup).get(number);
        return new int[] {loop.get(0), loop.get(1), loop.size(), way(loop), misclosure(setup, loop),
            closes(setup, loop, setup.settings[3]) ? 1 : 0}[what];
    }

    public int loopMark(int number, int index) {
        needLoop(number);
        List<Integer> loop = loops(setup).get(number);
        return index < 0 || index >= loop.size() ? NONE : loop.get(index);
    }

    public int worstLoop() {
        forget();
        List<List<Integer>> loops = loops(setup);
        int worst = NONE;
        for (int i = 0; i < loops.size(); i++) {
            if (worst == NONE || badness(loops.get(i), loops.get(worst)) > 0) worst = i;
        }
        return worst;
    }

    private int badness(List<Integer> loop, List<Integer> other) {
        BigInteger one = BigInteger.valueOf(misclosure(setup, loop)).pow(2).multiply(BigInteger.valueOf(way(other)));
        BigInteger two = BigInteger.valueOf(misclosure(setup, other)).pow(2).multiply(BigInteger.valueOf(way(loop)));
        return one.compareTo(two);
    }

    public int suspect() {
        forget();
        if (closing(setup) == loops(setup).size()) return NONE;
        int[] best = null;
        for (int[] edge : edges(setup)) {
            int open = loopsWith(edge, false);
            int[] next = {-open, loopsWith(edge, true) - open, 12 * edge[0] + edge[1]};
            if (best == null || Arrays.compare(next, best) < 0) best = next;
        }
        return best[2];
    }

    public int outlier() {
        forget();
        int found = NONE;
        int most = NONE;
        for (int i = 0; i < setup.sights.size(); i++) {
            Sight sight = setup.sights.get(i);
            if (sight.struck || between(setup, sight.from, sight.to).size() < 3) continue;
            int difference = Math.abs(rise(setup, sight) - edgeRise(setup, sight.from, sight.to));
            if (difference <= most) continue;
            most = difference;
            found = i;
        }
        return found;
    }

    public long misfit() {
        forget();
        return misfit(setup);
    }

    public int tension(int mark) {
        needMark(mark);
        forget();
        if (!setup.heights.containsKey(mark)) return NO_HEIGHT;
        long most = 0;
        for (int other = 0; other < names.size(); other++) {
            if (between(setup, mark, other).isEmpty() || !setup.heights.containsKey(other)) continue;
            long told = setup.heights.get(other) + edgeRise(setup, other, mark);
            most = Math.max(most, Math.abs(setup.heights.get(mark) - told));
        }
        return Math.toIntExact(most);
    }

    public int tensest() {
        int most = 0;
        int found = NONE;
        for (int m = names.size() - 1; m >= 0; m--) {
            if (tension(m) > 0 && tension(m) >= most) {
                most = tension(m);
                found = m;
            }
        }
        return found;
    }

    public int neighbour(int mark, int index) {
        needMark(mark);
        List<Integer> found = new ArrayList<>();
        for (int m = 0; m < names.size(); m++) {
            if (!between(setup, mark, m).isEmpty()) found.add(m);
        }
        return index < 0 || index >= found.size() ? NONE : found.get(index);
    }

    public int loopsOf(int mark) {
        needMark(mark);
        return (int) loops(setup).stream().filter(loop -> loop.contains(mark)).count();
    }

    public int bridges() {
        forget();
        return (int) edges(setup).stream().filter(edge -> loopsWith(edge, true) == 0).count();
    }

    public double meanSwings() {
        int sum = 0;
        int number = 0;
        for (Sight sight : setup.sights) {
            if (sight.struck) continue;
            sum += swings(apart(sight.from, sight.to), setup.settings[0]);
            number++;
        }
        return number == 0 ? 0.0 : (double) sum / number;
    }

    public float closedShare() {
        forget();
        int loops = loops(setup).size();
        return loops == 0 ? 1 : (float) closing(setup) / loops;
    }

    // ---- what would be

    private Setup withStruck(int number, boolean struck) {
        Setup other = setup.copy();
        Sight sight = other.sights.get(number);
        other.sights.set(number, new Sight(sight.from, sight.to, sight.end, sight.reading, sight.heat, struck));
        return other;
    }

    public int closedIf(int sight) {
        needSight(sight);
        forget();
        return closing(withStruck(sight, !setup.sights.get(sight).struck));
    }

    public int bestStrike() {
        int best = NONE;
        int fewest = Integer.MAX_VALUE;
        for (int i = 0; i < setup.sights.size(); i++) {
            if (setup.sights.get(i).struck) continue;
            forget();
            Setup other = withStruck(i, true);
            int open = loops(other).size() - closing(other);
            if (open >= fewest) continue;
            fewest = open;
            best = i;
        }
        return best;
    }

    public int errorWith(int length) {
        need(length, 1, 9999);
        return found(setup, length);
    }

    public long misfitAfter(int rounds) {
        need(rounds, 0, 50);
        forget();
        Setup other = setup.copy();
        levelOut(other);
        relaxBy(other, rounds);
        return misfit(other);
    }

    public int heightIf(int mark) {
        needMark(mark);
        forget();
        Setup other = setup.copy();
        levelOut(other);
        return height(other, mark);
    }

    public int leastLimit() {
        forget();
        List<List<Integer>> loops = loops(setup);
        for (int limit = 0; limit <= 999; limit++) {
            int bound = limit;
            if (loops.stream().allMatch(loop -> closes(setup, loop, bound))) return limit;
        }
        return NONE;
    }

    // ---- changes

    private void keep() {
        forget();
        undoable.add(setup.copy());
        if (undoable.size() > 10) undoable.remove(0);
    }

    public int addSight(int from, int to, int end, int reading, int heat) {
        needMark(from);
        needMark(to);
        if (from == to) throw new IllegalArgumentException();
        need(end, 0, 1);
        need(reading, -9999, 9999);
        need(heat, -40, 60);
        if (setup.sights.size() == 40) throw new IllegalStateException();
        keep();
        setup.sights.add(new Sight(from, to, end, reading, heat, false));
        return setup.sights.size() - 1;
    }

    public boolean strike(int sight, boolean struck) {
        needSight(sight);
        keep();
        boolean before = setup.sights.get(sight).struck;
        setup = withStruck(sight, struck);
        return before;
    }

    public int swap(int number, int reading) {
        needSight(number);
        need(reading, -9999, 9999);
        keep();
        Sight old = setup.sights.get(number);
        setup.sights.set(number, new Sight(old.from, old.to, 1 - old.end, reading, old.heat, old.struck));
        return 1 - old.end;
    }

    public boolean fix(int mark, int height) {
        needMark(mark);
        need(height, -99999, 99999);
        keep();
        setup.heights.put(mark, (long) height);
        return !setup.benches.add(mark);
    }

    public int free(int mark) {
        needMark(mark);
        if (!setup.benches.contains(mark)) throw new IllegalStateException();
        keep();
        setup.benches.remove(mark);
        return setup.benches.size();
    }

    public int level() {
        keep();
        levelOut(setup);
        return setup.heights.size();
    }

    public int relax(int rounds) {
        need(rounds, 1, 50);
        keep();
        return relaxBy(setup, rounds);
    }

    public int tellError(int error) {
        need(error, -999, 999);
        keep();
        int before = error(setup);
        setup.told = error;
        return before;
    }

    public int findError() {
        keep();
        setup.told = null;
        return error(setup);
    }

    public int set(int what, int value) {
        need(what, 0, 3);
        need(value, new int[] {1, 0, -99, 0}[what], new int[] {9999, 99, 99, 999}[what]);
        keep();
        int before = setup.settings[what];
        setup.settings[what] = value;
        return before;
    }

    public int undo() {
        if (undoable.isEmpty()) throw new IllegalStateException();
        setup = undoable.remove(undoable.size() - 1);
        return undoable.size();
    }

    // ---- output and state

    public int printMarks() {
        List<String> texts = new ArrayList<>();
        for (int m = 0; m < names.size(); m++) {
            String height = setup.heights.containsKey(m) ? "" + setup.heights.get(m) : "?";
            texts.add(names.get(m) + ":" + height + (setup.benches.contains(m) ? "*" : ""));
        }
        printed = String.join(" ", texts);
        return printed.length();
    }

    public int printLoop(int number) {
        needLoop(number);
        forget();
        List<Integer> loop = loops(setup).get(number);
        String way = String.join("/", loop.stream().map(names::get).toList());
        printed = way + " " + misclosure(setup, loop) + (closes(setup, loop, setup.settings[3]) ? "" : "!");
        return printed.length();
    }

    public int printSight(int number) {
        needSight(number);
        Sight sight = setup.sights.get(number);
        printed = (sight.struck ? "- " : "") + "sight " + names.get(sight.from) + " " + names.get(sight.to)
                + (sight.end == 0 ? " fore " : " back ") + sight.reading + " heat " + sight.heat;
        return printed.length();
    }

    public int outputByte(int index) {
        return index < 0 || index >= printed.length() ? NONE : printed.charAt(index);
    }

    public int saveState() {
        saved = setup.copy();
        return setup.sights.size();
    }

    public int restoreState() {
        if (saved == null) throw new IllegalStateException();
        setup = saved.copy();
        undoable.clear();
        return setup.sights.size();
    }
}
