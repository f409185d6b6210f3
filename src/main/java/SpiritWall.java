/** Marks on a wall, the sights between them, and the heights that these tell. */
public final class SpiritWall {
    public static final int NONE = -1;
    public static final int NO_HEIGHT = -10000000;
    public static final int FORE = 0, BACK = 1;

    private static final int MAX_MARKS = 12;
    private static final int PAIRS = MAX_MARKS * MAX_MARKS;
    private static final int MAX_SIGHTS = 40;
    private static final int MAX_UNDO = 10;
    private static final int MAX_TEXT = 900;
    private static final int MAX_OUTPUT = 400;
    private static final int FEED_BYTES = 20;
    private static final int MAX_NAME = 6;
    private static final int LETTER_BITS = 5, LETTER_MASK = 31;
    private static final int MAX_DIGITS = 5;

    private static final int LENGTH = 0, BEND = 1, WARM = 2, LIMIT = 3, SETTINGS = 4;
    private static final int MAX_LIMIT = 999;
    private static final int[] LEAST_SETTING = {1, 0, -99, 0};
    private static final int[] GREATEST_SETTING = {9999, 99, 99, MAX_LIMIT};
    private static final int[] FIRST_SETTING = {1000, 0, 0, 10};

    private static final int MAX_ERROR = 999;
    private static final int MAX_READING = 9999;
    private static final int LEAST_HEAT = -40, GREATEST_HEAT = 60, USUAL_HEAT = 20;
    private static final int MAX_BENCH = 99999;
    private static final int MAX_ROUNDS = 50;

    private final Text input = new Text(MAX_TEXT);
    private final Text output = new Text(MAX_OUTPUT);
    private final Wall wall = new Wall();
    private final State now = new State();
    private final State trial = new State();
    private final State saved = new State();
    private final History history = new History();
    private final Reader reader = new Reader(input);
    private final Edges edges = new Edges(wall, now);
    private final Forest forest = new Forest(edges);
    private final Loops loops = new Loops(edges, forest);
    private final Heights heights = new Heights(edges);
    private boolean stateSaved = false;
    private int parseCode = 0;
    private int parseOffset = NONE;

    public SpiritWall() {
    }

    public int feed(int a, int b, int c, int d, int e) {
        if (input.length > MAX_TEXT - FEED_BYTES) return NONE;
        input.addFour(a);
        input.addFour(b);
        input.addFour(c);
        input.addFour(d);
        input.addFour(e);
        return input.length;
    }

    public boolean truncate(int length) {
        if (length < 0 || length > input.length) return false;
        input.length = length;
        return true;
    }

    public int parse() {
        boolean right = reader.readText();
        parseCode = reader.code;
        parseOffset = reader.offset;
        input.length = 0;
        if (!right) return NONE;
        wall.copyFrom(reader.wall);
        now.copyFrom(reader.state);
        history.number = 0;
        stateSaved = false;
        return wall.marks;
    }

    public int errorCode() {
        return parseCode;
    }

    public int errorOffset() {
        return parseOffset;
    }

    // ---- what there is

    public int count(int what) {
        survey(now);
        switch (what) {
            case 0: return wall.marks;
            case 1: return now.benches();
            case 2: return now.sights;
            case 3: return now.struckSights();
            case 4: return edges.number;
            case 5: return forest.number;
            case 6: return loops.number;
            case 7: return loops.closing;
            case 8: return now.markedHeights();
            case 9: return history.number;
            case 10: return wall.marks - forest.number;
            default: return NONE;
        }
    }

    public int setting(int what) {
        if (what == SETTINGS) return now.errorTold ? 1 : 0;
        return what >= 0 && what < SETTINGS ? now.settingOf(what) : NONE;
    }

    public int levelError() {
        edges.measure(now);
        return edges.error;
    }

    public int estimate(int mark, int other) throws IndexOutOfBoundsException {
        needMark(mark);
        needMark(other);
        edges.measure(now);
        return edges.estimateOf(edges.between(mark, other), now.settingOf(LENGTH));
    }

    public int find() {
        int found = wall.named(input.wholeWord());
        input.length = 0;
        return found;
    }

    public int mark(int mark, int what) throws IndexOutOfBoundsException, IllegalArgumentException {
        needMark(mark);
        survey(now);
        switch (what) {
            case 0: return cell(wall.places, mark);
            case 1: return cell(now.bench, mark);
            case 2: return edges.edgesAt(mark);
            case 3: return now.sightsAt(mark, false);
            case 4: return cell(forest.parts, mark);
            default: throw new IllegalArgumentException("no such number of a mark");
        }
    }

    public int height(int mark) throws IndexOutOfBoundsException {
        needMark(mark);
        return now.heightOf(mark);
    }

    public int whyNone(int mark) throws IndexOutOfBoundsException {
        needMark(mark);
        survey(now);
        if (joinedWithBench(mark)) return 0;
        if (now.sightsAt(mark, true) == 0) return 1;
        return now.sightsAt(mark, false) == 0 ? 2 : 3;
    }

    public int sight(int sight, int what) throws IndexOutOfBoundsException, IllegalArgumentException {
        needSight(sight);
        edges.measure(now);
        switch (what) {
            case 0: return cell(now.from, sight);
            case 1: return cell(now.to, sight);
            case 2: return cell(now.end, sight);
            case 3: return cell(now.reading, sight);
            case 4: return cell(now.heat, sight);
            case 5: return cell(now.struck, sight);
            case 6: return edges.swingsOf(sight);
            case 7: return edges.bendOf(sight);
            case 8: return edges.warmthOf(sight);
            case 9: return edges.sightRise(sight);
            default: throw new IllegalArgumentException("no such number of a sight");
        }
    }

    public int rise(int mark, int other) throws IndexOutOfBoundsException {
        needMark(mark);
        needMark(other);
        edges.measure(now);
        int edge = edges.between(mark, other);
        return edge == NONE ? NO_HEIGHT : edges.riseFrom(edge, mark);
    }

    public int edge(int mark, int other, int what) throws IndexOutOfBoundsException, IllegalArgumentException {
        needMark(mark);
        needMark(other);
        needRange(what, 0, 6);
        survey(now);
        int edge = edges.between(mark, other);
        if (edge == NONE) return NONE;
        switch (what) {
            case 0: return cell(edges.sights, edge);
            case 1: return cell(edges.distances, edge);
            case 2: return edges.weightOf(edge);
            case 3: return cell(forest.taken, edge);
            case 4: return cell(loops.loopsWith, edge);
            case 5: return cell(loops.openWith, edge);
            default: return edges.spreadOf(edge);
        }
    }

    public int along(int mark, int other) throws IndexOutOfBoundsException {
        needMark(mark);
        needMark(other);
        survey(now);
        return forest.joined(mark, other) ? forest.climbOf(mark, other) : NO_HEIGHT;
    }

    public int loop(int loop, int what) throws IndexOutOfBoundsException, IllegalArgumentException {
        survey(now);
        needLoop(loop);
        switch (what) {
            case 0: return loops.markAt(loop, 0);
            case 1: return loops.markAt(loop, 1);
            case 2: return cell(loops.sizes, loop);
            case 3: return cell(loops.ways, loop);
            case 4: return cell(loops.misclosures, loop);
            case 5: return loops.closes(loop, now.settingOf(LIMIT)) ? 1 : 0;
            default: throw new IllegalArgumentException("no such number of a loop");
        }
    }

    public int loopMark(int loop, int index) throws IndexOutOfBoundsException {
        survey(now);
        needLoop(loop);
        return loops.markAt(loop, index);
    }

    public int worstLoop() {
        survey(now);
        return loops.worst();
    }

    public int suspect() {
        survey(now);
        int edge = loops.suspectEdge();
        return edge == NONE ? NONE : pairOf(cell(edges.lesser, edge), cell(edges.greater, edge));
    }

    public int outlier() {
        edges.measure(now);
        return edges.outlyingSight();
    }

    public long misfit() {
        edges.measure(now);
        return heights.misfitOf(now);
    }

    public int tension(int mark) throws IndexOutOfBoundsException {
        needMark(mark);
        edges.measure(now);
        return heights.tensionAt(now, mark);
    }

    public int tensest() {
        edges.measure(now);
        int found = NONE;
        int greatest = 0;
        for (int m = 0; m < wall.marks; m++) {
            int tension = heights.tensionAt(now, m);
            if (tension > greatest) {
                greatest = tension;
                found = m;
            }
        }
        return found;
    }

    public int neighbour(int mark, int index) throws IndexOutOfBoundsException {
        needMark(mark);
        edges.measure(now);
        int place = 0;
        for (int m = 0; m < wall.marks; m++) {
            if (edges.between(mark, m) == NONE) continue;
            if (place == index) return m;
            place++;
        }
        return NONE;
    }

    public int loopsOf(int mark) throws IndexOutOfBoundsException {
        needMark(mark);
        survey(now);
        return loops.loopsThrough(mark);
    }

    public int bridges() {
        survey(now);
        int bridges = 0;
        for (int e = 0; e < edges.number; e++) {
            if (cell(loops.loopsWith, e) == 0) bridges++;
        }
        return bridges;
    }

    public double meanSwings() {
        edges.measure(now);
        int swings = 0;
        int sights = 0;
        for (int s = 0; s < now.sights; s++) {
            if (!now.counts(s)) continue;
            swings += edges.swingsOf(s);
            sights++;
        }
        return sights == 0 ? 0.0 : (double) swings / (double) sights;
    }

    public float closedShare() {
        survey(now);
        return loops.number == 0 ? 1.0f : (float) loops.closing / (float) loops.number;
    }

    // ---- what would be

    public int closedIf(int sight) throws IndexOutOfBoundsException {
        needSight(sight);
        tryStrike(sight, 1 - cell(now.struck, sight));
        survey(trial);
        return loops.closing;
    }

    public int bestStrike() {
        int best = NONE;
        int fewest = 0;
        for (int s = 0; s < now.sights; s++) {
            if (!now.counts(s)) continue;
            tryStrike(s, 1);
            survey(trial);
            int open = loops.number - loops.closing;
            if (best == NONE || open < fewest) {
                best = s;
                fewest = open;
            }
        }
        return best;
    }

    public int errorWith(int length) throws IllegalArgumentException {
        needSettingRange(LENGTH, length);
        edges.measure(now);
        return edges.foundError(length);
    }

    public long misfitAfter(int rounds) throws IllegalArgumentException {
        needRange(rounds, 0, MAX_ROUNDS);
        trial.copyFrom(now);
        edges.measure(trial);
        heights.levelOut(trial);
        heights.relaxBy(trial, rounds);
        return heights.misfitOf(trial);
    }

    public int heightIf(int mark) throws IndexOutOfBoundsException {
        needMark(mark);
        trial.copyFrom(now);
        edges.measure(trial);
        heights.levelOut(trial);
        return trial.heightOf(mark);
    }

    public int leastLimit() {
        survey(now);
        int limit = 0;
        for (int loop = 0; loop < loops.number; loop++) {
            while (limit <= MAX_LIMIT && !loops.closes(loop, limit)) limit++;
        }
        return limit <= MAX_LIMIT ? limit : NONE;
    }

    // ---- changes

    public int addSight(int from, int to, int end, int reading, int heat)
            throws IndexOutOfBoundsException, IllegalArgumentException, IllegalStateException {
        needMark(from);
        needMark(to);
        if (from == to) throw new IllegalArgumentException("a sight goes to another mark");
        needRange(end, FORE, BACK);
        needRange(reading, -MAX_READING, MAX_READING);
        needRange(heat, LEAST_HEAT, GREATEST_HEAT);
        if (now.sights >= MAX_SIGHTS) throw new IllegalStateException("there are 40 sights");
        history.keep(now);
        return now.add(from, to, end, reading, heat);
    }

    public boolean strike(int sight, boolean struck) throws IndexOutOfBoundsException {
        needSight(sight);
        history.keep(now);
        boolean before = !now.counts(sight);
        put(now.struck, sight, struck ? 1 : 0);
        return before;
    }

    public int swap(int sight, int reading) throws IndexOutOfBoundsException, IllegalArgumentException {
        needSight(sight);
        needRange(reading, -MAX_READING, MAX_READING);
        history.keep(now);
        int end = cell(now.end, sight) == FORE ? BACK : FORE;
        put(now.reading, sight, reading);
        put(now.end, sight, end);
        return end;
    }

    public boolean fix(int mark, int height) throws IndexOutOfBoundsException, IllegalArgumentException {
        needMark(mark);
        needRange(height, -MAX_BENCH, MAX_BENCH);
        history.keep(now);
        boolean before = now.isBench(mark);
        now.makeBench(mark, height);
        return before;
    }

    public int free(int mark) throws IndexOutOfBoundsException, IllegalStateException {
        needMark(mark);
        if (!now.isBench(mark)) throw new IllegalStateException("this mark is no bench");
        history.keep(now);
        put(now.bench, mark, 0);
        return now.benches();
    }

    public int level() {
        history.keep(now);
        edges.measure(now);
        heights.levelOut(now);
        return now.markedHeights();
    }

    public int relax(int rounds) throws IllegalArgumentException {
        needRange(rounds, 1, MAX_ROUNDS);
        history.keep(now);
        edges.measure(now);
        return heights.relaxBy(now, rounds);
    }

    public int tellError(int error) throws IllegalArgumentException {
        needRange(error, -MAX_ERROR, MAX_ERROR);
        history.keep(now);
        int before = levelError();
        now.errorTold = true;
        now.toldError = error;
        return before;
    }

    public int findError() {
        history.keep(now);
        now.errorTold = false;
        return levelError();
    }

    public int set(int what, int value) throws IllegalArgumentException {
        needRange(what, 0, SETTINGS - 1);
        needSettingRange(what, value);
        history.keep(now);
        int before = now.settingOf(what);
        put(now.settings, what, value);
        return before;
    }

    public int undo() throws IllegalStateException {
        if (history.number == 0) throw new IllegalStateException("nothing can be undone");
        history.takeBack(now);
        return history.number;
    }

    // ---- output and state

    public int printMarks() {
        output.length = 0;
        for (int m = 0; m < wall.marks; m++) {
            if (m > 0) output.add(' ');
            wall.writeName(m, output);
            output.add(':');
            if (now.hasHeight(m)) {
                output.addNumber(now.heightOf(m));
            } else {
                output.add('?');
            }
            if (now.isBench(m)) output.add('*');
        }
        return output.length;
    }

    public int printLoop(int loop) throws IndexOutOfBoundsException {
        survey(now);
        needLoop(loop);
        output.length = 0;
        int size = cell(loops.sizes, loop);
        for (int i = 0; i < size; i++) {
            if (i > 0) output.add('/');
            wall.writeName(loops.markAt(loop, i), output);
        }
        output.add(' ');
        output.addNumber(cell(loops.misclosures, loop));
        if (!loops.closes(loop, now.settingOf(LIMIT))) output.add('!');
        return output.length;
    }

    public int printSight(int sight) throws IndexOutOfBoundsException {
        needSight(sight);
        output.length = 0;
        if (!now.counts(sight)) output.addText("- ");
        output.addText("sight ");
        wall.writeName(cell(now.from, sight), output);
        output.add(' ');
        wall.writeName(cell(now.to, sight), output);
        output.addText(cell(now.end, sight) == FORE ? " fore " : " back ");
        output.addNumber(cell(now.reading, sight));
        output.addText(" heat ");
        output.addNumber(cell(now.heat, sight));
        return output.length;
    }

    public int outputByte(int index) {
        return output.byteAt(index);
    }

    public int saveState() {
        saved.copyFrom(now);
        stateSaved = true;
        return now.sights;
    }

    public int restoreState() throws IllegalStateException {
        if (!stateSaved) throw new IllegalStateException("no state is saved");
        now.copyFrom(saved);
        history.number = 0;
        return now.sights;
    }

    private void survey(State state) {
        edges.measure(state);
        forest.grow();
        loops.gather(state.settingOf(LIMIT));
    }

    private void tryStrike(int sight, int struck) {
        trial.copyFrom(now);
        put(trial.struck, sight, struck);
    }

    private boolean joinedWithBench(int mark) {
        for (int m = 0; m < wall.marks; m++) {
            if (now.isBench(m) && forest.joined(mark, m)) return true;
        }
        return false;
    }

    private void needMark(int mark) {
        if (mark < 0 || mark >= wall.marks) throw new IndexOutOfBoundsException("there is no such mark");
    }

    private void needSight(int sight) {
        if (sight < 0 || sight >= now.sights) throw new IndexOutOfBoundsException("there is no such sight");
    }

    private void needLoop(int loop) {
        if (loop < 0 || loop >= loops.number) throw new IndexOutOfBoundsException("there is no such loop");
    }

    private static void needSettingRange(int what, int value) {
        needRange(value, cell(LEAST_SETTING, what), cell(GREATEST_SETTING, what));
    }

    private static void needRange(int value, int least, int greatest) {
        if (value < least || value > greatest) throw new IllegalArgumentException("out of range");
    }

    private static int cell(int[] row, int index) {
        return index >= 0 && index < row.length ? row[index] : 0;
    }

    private static void put(int[] row, int index, int value) {
        if (index >= 0 && index < row.length) row[index] = value;
    }

    private static void addTo(int[] row, int index, int value) {
        put(row, index, cell(row, index) + value);
    }

    private static void fill(int[] row, int value) {
        for (int i = 0; i < row.length; i++) row[i] = value;
    }

    private static void copyRow(int[] row, int[] source) {
        for (int i = 0; i < row.length && i < source.length; i++) row[i] = source[i];
    }

    /** Rounds down, also below 0; no divisor is ever 0, but none may make the machine throw. */
    private static long quotient(long dividend, long divisor) {
        return divisor == 0 ? 0 : Math.floorDiv(dividend, divisor);
    }

    /** A word of up to six letters is held as one number, five bits a letter. */
    private static int withLetter(int word, int letter) {
        return (word << LETTER_BITS) | (letter - 'a' + 1);
    }

    private static int wordOf(String text) {
        int word = 0;
        for (int i = 0; i < text.length() && i < MAX_NAME; i++) word = withLetter(word, text.charAt(i));
        return word;
    }

    private static boolean isLetter(int value) {
        return value >= 'a' && value <= 'z';
    }

    private static int pairOf(int mark, int other) {
        return mark < other ? MAX_MARKS * mark + other : MAX_MARKS * other + mark;
    }

    /** A text of bytes with a fixed room: the input buffer and the output. */
    private static final class Text {
        final int[] bytes;
        int length = 0;

        Text(int room) {
            bytes = new int[room > 0 ? room : 0];
        }

        int byteAt(int index) {
            return index >= 0 && index < length ? cell(bytes, index) : NONE;
        }

        void add(int value) {
            if (length >= bytes.length) return;
            put(bytes, length, value & 255);
            length++;
        }

        void addFour(int four) {
            add(four >>> 24);
            add(four >>> 16);
            add(four >>> 8);
            add(four);
        }

        void addText(String text) {
            for (int i = 0; i < text.length(); i++) add(text.charAt(i));
        }

        void addNumber(int number) {
            if (number < 0) add('-');
            long rest = number < 0 ? -(long) number : number;
            long unit = 1000000000L;
            boolean begun = false;
            for (int i = 0; i < 10 && unit > 0; i++) {
                int digit = (int) (rest / unit % 10);
                begun = begun || digit > 0 || unit == 1;
                if (begun) add('0' + digit);
                unit /= 10;
            }
        }

        void addWord(int word) {
            for (int i = MAX_NAME - 1; i >= 0; i--) {
                int letter = (word >>> (LETTER_BITS * i)) & LETTER_MASK;
                if (letter > 0) add('a' + letter - 1);
            }
        }

        /** The word that is the whole text; NONE if it is none that can be a name. */
        int wholeWord() {
            if (length == 0 || length > MAX_NAME) return NONE;
            int word = 0;
            for (int i = 0; i < length; i++) {
                int value = byteAt(i);
                if (!isLetter(value)) return NONE;
                word = withLetter(word, value);
            }
            return word;
        }
    }

    /** The names and places of the marks; only a text that was parsed changes them. */
    private static final class Wall {
        int marks = 0;
        final int[] names = new int[MAX_MARKS];
        final int[] places = new int[MAX_MARKS];

        void copyFrom(Wall other) {
            marks = other.marks;
            copyRow(names, other.names);
            copyRow(places, other.places);
        }

        int named(int word) {
            return markWith(names, word);
        }

        int placedAt(int place) {
            return markWith(places, place);
        }

        private int markWith(int[] row, int value) {
            for (int m = 0; m < marks; m++) {
                if (cell(row, m) == value) return m;
            }
            return NONE;
        }

        int add(int name, int place) {
            int mark = marks;
            put(names, mark, name);
            put(places, mark, place);
            marks++;
            return mark;
        }

        void writeName(int mark, Text text) {
            text.addWord(cell(names, mark));
        }

        int distance(int mark, int other) {
            int difference = cell(places, mark) - cell(places, other);
            return difference < 0 ? -difference : difference;
        }
    }

    /** All that changes can change: settings, benches, heights and sights. */
    private static final class State {
        final int[] settings = new int[SETTINGS];
        boolean errorTold = false;
        int toldError = 0;
        final int[] bench = new int[MAX_MARKS];
        final int[] withHeight = new int[MAX_MARKS];
        final int[] markHeights = new int[MAX_MARKS];
        int sights = 0;
        final int[] from = new int[MAX_SIGHTS];
        final int[] to = new int[MAX_SIGHTS];
        final int[] end = new int[MAX_SIGHTS];
        final int[] reading = new int[MAX_SIGHTS];
        final int[] heat = new int[MAX_SIGHTS];
        final int[] struck = new int[MAX_SIGHTS];

        State() {
            copyRow(settings, FIRST_SETTING);
        }

        void clear() {
            copyRow(settings, FIRST_SETTING);
            errorTold = false;
            fill(bench, 0);
            fill(withHeight, 0);
            sights = 0;
        }

        void copyFrom(State other) {
            copyRow(settings, other.settings);
            errorTold = other.errorTold;
            toldError = other.toldError;
            copyRow(bench, other.bench);
            copyRow(withHeight, other.withHeight);
            copyRow(markHeights, other.markHeights);
            sights = other.sights;
            copyRow(from, other.from);
            copyRow(to, other.to);
            copyRow(end, other.end);
            copyRow(reading, other.reading);
            copyRow(heat, other.heat);
            copyRow(struck, other.struck);
        }

        int settingOf(int what) {
            return cell(settings, what);
        }

        boolean isBench(int mark) {
            return cell(bench, mark) == 1;
        }

        boolean hasHeight(int mark) {
            return cell(withHeight, mark) == 1;
        }

        int heightOf(int mark) {
            return hasHeight(mark) ? cell(markHeights, mark) : NO_HEIGHT;
        }

        void putHeight(int mark, int height) {
            put(withHeight, mark, 1);
            put(markHeights, mark, height);
        }

        void makeBench(int mark, int height) {
            put(bench, mark, 1);
            putHeight(mark, height);
        }

        int benches() {
            return ones(bench, MAX_MARKS);
        }

        int markedHeights() {
            return ones(withHeight, MAX_MARKS);
        }

        int struckSights() {
            return ones(struck, sights);
        }

        private static int ones(int[] row, int size) {
            int ones = 0;
            for (int i = 0; i < size; i++) {
                if (cell(row, i) == 1) ones++;
            }
            return ones;
        }

        boolean counts(int sight) {
            return cell(struck, sight) == 0;
        }

        int sightsAt(int mark, boolean alsoStruck) {
            int found = 0;
            for (int s = 0; s < sights; s++) {
                boolean there = cell(from, s) == mark || cell(to, s) == mark;
                if (there && (alsoStruck || counts(s))) found++;
            }
            return found;
        }

        int add(int fromMark, int toMark, int newEnd, int newReading, int newHeat) {
            int sight = sights;
            put(from, sight, fromMark);
            put(to, sight, toMark);
            put(end, sight, newEnd);
            put(reading, sight, newReading);
            put(heat, sight, newHeat);
            put(struck, sight, 0);
            sights++;
            return sight;
        }
    }

    /** The states ahead of the latest changes, in a ring. */
    private static final class History {
        final State[] states = new State[MAX_UNDO];
        int number = 0;
        int newest = 0;

        History() {
            for (int i = 0; i < states.length; i++) states[i] = new State();
        }

        void keep(State state) {
            newest = newest + 1 < MAX_UNDO ? newest + 1 : 0;
            State place = stateAt(newest);
            if (place != null) place.copyFrom(state);
            if (number < MAX_UNDO) number++;
        }

        void takeBack(State state) {
            State place = stateAt(newest);
            if (place != null) state.copyFrom(place);
            newest = newest > 0 ? newest - 1 : MAX_UNDO - 1;
            number--;
        }

        private State stateAt(int index) {
            return index >= 0 && index < states.length ? states[index] : null;
        }
    }

    /** The error of the level and the edges, as the sights of a state tell them. */
    private static final class Edges {
        final Wall wall;
        State state;
        int error = 0;
        int number = 0;
        final int[] sightDistances = new int[MAX_SIGHTS];
        final int[] pureReadings = new int[MAX_SIGHTS];
        final int[] errorSigns = new int[MAX_SIGHTS];
        final int[] edgeOfPair = new int[PAIRS];
        final int[] lesser = new int[MAX_SIGHTS];
        final int[] greater = new int[MAX_SIGHTS];
        final int[] distances = new int[MAX_SIGHTS];
        final int[] sights = new int[MAX_SIGHTS];
        final int[] rises = new int[MAX_SIGHTS];
        final int[] withSights = new int[MAX_SIGHTS];
        final int[] withSums = new int[MAX_SIGHTS];
        final int[] againstSums = new int[MAX_SIGHTS];
        final int[] estimates = new int[MAX_SIGHTS];

        Edges(Wall wall, State state) {
            this.wall = wall;
            this.state = state;
        }

        void measure(State measured) {
            state = measured;
            readSights();
            tellPairs();
            numberEdges();
            sumReadings();
            error = state.errorTold ? state.toldError : foundError(state.settingOf(LENGTH));
            meanRises();
        }

        private void readSights() {
            for (int s = 0; s < state.sights; s++) {
                put(sightDistances, s, wall.distance(cell(state.from, s), cell(state.to, s)));
                put(pureReadings, s, cell(state.reading, s) - bendOf(s) - warmthOf(s));
                int sign = cell(state.end, s) == FORE ? 1 : -1;
                put(errorSigns, s, isOdd(swingsOf(s)) ? sign : 0);
            }
        }

        private void tellPairs() {
            fill(edgeOfPair, NONE);
            for (int s = 0; s < state.sights; s++) {
                if (state.counts(s)) put(edgeOfPair, pairOf(cell(state.from, s), cell(state.to, s)), 0);
            }
        }

        private void numberEdges() {
            number = 0;
            for (int a = 0; a < wall.marks; a++) {
                for (int b = a + 1; b < wall.marks; b++) {
                    if (cell(edgeOfPair, pairOf(a, b)) != NONE) addEdge(a, b);
                }
            }
        }

        private void addEdge(int a, int b) {
            put(edgeOfPair, pairOf(a, b), number);
            put(lesser, number, a);
            put(greater, number, b);
            put(distances, number, wall.distance(a, b));
            put(sights, number, 0);
            put(rises, number, 0);
            put(withSights, number, 0);
            put(withSums, number, 0);
            put(againstSums, number, 0);
            number++;
        }

        private void sumReadings() {
            for (int s = 0; s < state.sights; s++) {
                if (!state.counts(s)) continue;
                int edge = edgeOf(s);
                addTo(sights, edge, 1);
                int pure = fromLesser(s, cell(pureReadings, s));
                if (isWith(s)) {
                    addTo(withSights, edge, 1);
                    addTo(withSums, edge, pure);
                } else {
                    addTo(againstSums, edge, pure);
                }
            }
        }

        private void meanRises() {
            for (int s = 0; s < state.sights; s++) {
                if (state.counts(s)) addTo(rises, edgeOf(s), fromLesser(s, sightRise(s)));
            }
            for (int e = 0; e < number; e++) {
                put(rises, e, (int) quotient(cell(rises, e), cell(sights, e)));
            }
        }

        int foundError(int length) {
            int told = 0;
            for (int e = 0; e < number; e++) {
                int estimate = estimateOf(e, length);
                if (estimate == NO_HEIGHT) continue;
                insert(estimate, told);
                told++;
            }
            return told == 0 ? 0 : cell(estimates, (told - 1) / 2);
        }

        private void insert(int estimate, int told) {
            int place = told;
            while (place > 0 && cell(estimates, place - 1) > estimate) {
                put(estimates, place, cell(estimates, place - 1));
                place--;
            }
            put(estimates, place, estimate);
        }

        int estimateOf(int edge, int length) {
            if (edge == NONE || !isOdd(swings(cell(distances, edge), length))) return NO_HEIGHT;
            int with = cell(withSights, edge);
            int against = cell(sights, edge) - with;
            if (with == 0 || against == 0) return NO_HEIGHT;
            long difference = quotient(cell(withSums, edge), with) - quotient(cell(againstSums, edge), against);
            return (int) quotient(difference, 2);
        }

        /** The swings are the distance divided by the length, rounded up. */
        private static int swings(int distance, int length) {
            return (int) -quotient(-distance, length);
        }

        private static boolean isOdd(int swings) {
            return (swings & 1) == 1;
        }

        private boolean isWith(int sight) {
            return (cell(state.end, sight) == FORE) == (cell(state.from, sight) < cell(state.to, sight));
        }

        private int fromLesser(int sight, int value) {
            return cell(state.from, sight) < cell(state.to, sight) ? value : -value;
        }

        int between(int mark, int other) {
            return mark == other ? NONE : cell(edgeOfPair, pairOf(mark, other));
        }

        private int edgeOf(int sight) {
            return between(cell(state.from, sight), cell(state.to, sight));
        }

        int swingsOf(int sight) {
            return swings(cell(sightDistances, sight), state.settingOf(LENGTH));
        }

        int bendOf(int sight) {
            long distance = cell(sightDistances, sight);
            return (int) quotient(state.settingOf(BEND) * distance * distance, 100000000L);
        }

        int warmthOf(int sight) {
            long heat = cell(state.heat, sight) - USUAL_HEAT;
            return (int) quotient(state.settingOf(WARM) * heat * cell(sightDistances, sight), 100000L);
        }

        int sightRise(int sight) {
            return cell(pureReadings, sight) - cell(errorSigns, sight) * error;
        }

        int riseFrom(int edge, int mark) {
            int rise = cell(rises, edge);
            return cell(lesser, edge) == mark ? rise : -rise;
        }

        int weightOf(int edge) {
            return cell(sights, edge) * (int) quotient(1000000L, cell(distances, edge));
        }

        int otherEnd(int edge, int mark) {
            if (cell(lesser, edge) == mark) return cell(greater, edge);
            return cell(greater, edge) == mark ? cell(lesser, edge) : NONE;
        }

        int edgesAt(int mark) {
            int found = 0;
            for (int e = 0; e < number; e++) {
                if (otherEnd(e, mark) != NONE) found++;
            }
            return found;
        }

        int spreadOf(int edge) {
            boolean any = false;
            int least = 0;
            int greatest = 0;
            for (int s = 0; s < state.sights; s++) {
                if (!state.counts(s) || edgeOf(s) != edge) continue;
                int rise = fromLesser(s, sightRise(s));
                least = any && least <= rise ? least : rise;
                greatest = any && greatest >= rise ? greatest : rise;
                any = true;
            }
            return greatest - least;
        }

        int outlyingSight() {
            int found = NONE;
            int greatest = NONE;
            for (int s = 0; s < state.sights; s++) {
                if (!state.counts(s) || cell(sights, edgeOf(s)) < 3) continue;
                int difference = Math.abs(sightRise(s) - riseFrom(edgeOf(s), cell(state.from, s)));
                if (difference > greatest) {
                    greatest = difference;
                    found = s;
                }
            }
            return found;
        }
    }

    /** The edges that are taken, the shortest first, as long as they join marks anew. */
    private static final class Forest {
        final Edges edges;
        int number = 0;
        final int[] order = new int[MAX_SIGHTS];
        final int[] taken = new int[MAX_SIGHTS];
        final int[] parts = new int[MAX_MARKS];
        final int[] hops = new int[PAIRS];
        final int[] climbs = new int[PAIRS];

        Forest(Edges edges) {
            this.edges = edges;
        }

        void grow() {
            number = 0;
            for (int m = 0; m < MAX_MARKS; m++) put(parts, m, m);
            sortEdges();
            for (int i = 0; i < edges.number; i++) {
                int edge = cell(order, i);
                boolean joins = !joined(cell(edges.lesser, edge), cell(edges.greater, edge));
                put(taken, edge, joins ? 1 : 0);
                if (joins) take(edge);
            }
        }

        /** Edges are numbered by their marks, so a stable order by distance is the right one. */
        private void sortEdges() {
            for (int e = 0; e < edges.number; e++) {
                int distance = cell(edges.distances, e);
                int place = e;
                while (place > 0 && cell(edges.distances, cell(order, place - 1)) > distance) {
                    put(order, place, cell(order, place - 1));
                    place--;
                }
                put(order, place, e);
            }
        }

        private void take(int edge) {
            int near = cell(parts, cell(edges.lesser, edge));
            int far = cell(parts, cell(edges.greater, edge));
            for (int a = 0; a < MAX_MARKS; a++) {
                if (cell(parts, a) != near) continue;
                for (int b = 0; b < MAX_MARKS; b++) {
                    if (cell(parts, b) == far) leadAcross(edge, a, b);
                }
            }
            merge(near, far);
            number++;
        }

        private void leadAcross(int edge, int a, int b) {
            int lesser = cell(edges.lesser, edge);
            int greater = cell(edges.greater, edge);
            int climb = climbOf(a, lesser) + cell(edges.rises, edge) + climbOf(greater, b);
            put(climbs, MAX_MARKS * a + b, climb);
            put(climbs, MAX_MARKS * b + a, -climb);
            put(hops, MAX_MARKS * a + b, a == lesser ? greater : hop(a, lesser));
            put(hops, MAX_MARKS * b + a, b == greater ? lesser : hop(b, greater));
        }

        private void merge(int part, int other) {
            int least = part < other ? part : other;
            for (int m = 0; m < MAX_MARKS; m++) {
                if (cell(parts, m) == part || cell(parts, m) == other) put(parts, m, least);
            }
        }

        boolean joined(int mark, int other) {
            return cell(parts, mark) == cell(parts, other);
        }

        int climbOf(int mark, int other) {
            return cell(climbs, MAX_MARKS * mark + other);
        }

        /** The next mark on the way along the forest. */
        int hop(int mark, int other) {
            return cell(hops, MAX_MARKS * mark + other);
        }
    }

    /** The loops that the edges outside the forest tell. */
    private static final class Loops {
        final Edges edges;
        final Forest forest;
        int number = 0;
        int closing = 0;
        final int[] sizes = new int[MAX_SIGHTS];
        final int[] ways = new int[MAX_SIGHTS];
        final int[] misclosures = new int[MAX_SIGHTS];
        final int[] loopMarks = new int[MAX_SIGHTS * MAX_MARKS];
        final int[] loopsWith = new int[MAX_SIGHTS];
        final int[] openWith = new int[MAX_SIGHTS];

        Loops(Edges edges, Forest forest) {
            this.edges = edges;
            this.forest = forest;
        }

        void gather(int limit) {
            number = 0;
            closing = 0;
            fill(loopsWith, 0);
            fill(openWith, 0);
            for (int e = 0; e < edges.number; e++) {
                if (cell(forest.taken, e) == 1) continue;
                trace(e);
                boolean closes = closes(number, limit);
                countEdges(closes);
                if (closes) closing++;
                number++;
            }
        }

        private void trace(int edge) {
            int lesser = cell(edges.lesser, edge);
            int mark = cell(edges.greater, edge);
            int size = 1;
            int way = cell(edges.distances, edge);
            put(loopMarks, MAX_MARKS * number, lesser);
            while (size < MAX_MARKS && mark != lesser) {
                put(loopMarks, MAX_MARKS * number + size, mark);
                int next = forest.hop(mark, lesser);
                way += edges.wall.distance(mark, next);
                mark = next;
                size++;
            }
            put(sizes, number, size);
            put(ways, number, way);
            put(misclosures, number, cell(edges.rises, edge) + forest.climbOf(cell(edges.greater, edge), lesser));
        }

        private void countEdges(boolean closes) {
            int size = cell(sizes, number);
            for (int i = 0; i < size; i++) {
                int edge = edges.between(markAt(number, i), markAt(number, i + 1 < size ? i + 1 : 0));
                addTo(loopsWith, edge, 1);
                if (!closes) addTo(openWith, edge, 1);
            }
        }

        int markAt(int loop, int index) {
            return index >= 0 && index < cell(sizes, loop) ? cell(loopMarks, MAX_MARKS * loop + index) : NONE;
        }

        private long square(int loop) {
            long misclosure = cell(misclosures, loop);
            return misclosure * misclosure;
        }

        boolean closes(int loop, int limit) {
            return 1000L * square(loop) <= (long) cell(ways, loop) * limit * limit;
        }

        int worst() {
            int worst = NONE;
            for (int loop = 0; loop < number; loop++) {
                if (worst == NONE || isWorse(loop, worst)) worst = loop;
            }
            return worst;
        }

        private boolean isWorse(int loop, int other) {
            return square(loop) * cell(ways, other) > square(other) * cell(ways, loop);
        }

        int suspectEdge() {
            int found = NONE;
            int mostOpen = 0;
            int fewestClosing = 0;
            for (int e = 0; e < edges.number; e++) {
                int open = cell(openWith, e);
                int closed = cell(loopsWith, e) - open;
                if (open > mostOpen || (open > 0 && open == mostOpen && closed < fewestClosing)) {
                    found = e;
                    mostOpen = open;
                    fewestClosing = closed;
                }
            }
            return found;
        }

        int loopsThrough(int mark) {
            int through = 0;
            for (int loop = 0; loop < number; loop++) {
                int size = cell(sizes, loop);
                for (int i = 0; i < size; i++) {
                    if (markAt(loop, i) == mark) through++;
                }
            }
            return through;
        }
    }

    /** Levels and relaxes the heights of a state by the edges that were measured of it. */
    private static final class Heights {
        final Edges edges;
        final int[] ways = new int[MAX_MARKS];

        Heights(Edges edges) {
            this.edges = edges;
        }

        void levelOut(State state) {
            fill(ways, 0);
            copyRow(state.withHeight, state.bench);
            for (int i = 0; i < MAX_MARKS; i++) levelNext(state);
        }

        /** By its order of search the first of the edges with the least way is the right one. */
        private void levelNext(State state) {
            int bestMark = NONE;
            int bestFrom = NONE;
            int bestWay = 0;
            for (int mark = 0; mark < edges.wall.marks; mark++) {
                if (state.hasHeight(mark)) continue;
                for (int from = 0; from < edges.wall.marks; from++) {
                    if (!state.hasHeight(from) || edges.between(from, mark) == NONE) continue;
                    int way = cell(ways, from) + edges.wall.distance(from, mark);
                    if (bestMark == NONE || way < bestWay) {
                        bestMark = mark;
                        bestFrom = from;
                        bestWay = way;
                    }
                }
            }
            if (bestMark == NONE) return;
            put(ways, bestMark, bestWay);
            state.putHeight(bestMark, told(state, edges.between(bestFrom, bestMark), bestFrom));
        }

        /** What an edge tells of the height at its one end, by that of its other end. */
        private int told(State state, int edge, int from) {
            return state.heightOf(from) + edges.riseFrom(edge, from);
        }

        int relaxBy(State state, int rounds) {
            int changed = 0;
            for (int i = 0; i < rounds; i++) {
                if (!relaxRound(state)) return changed;
                changed++;
            }
            return changed;
        }

        private boolean relaxRound(State state) {
            boolean changed = false;
            for (int mark = 0; mark < edges.wall.marks; mark++) {
                if (state.isBench(mark) || !state.hasHeight(mark)) continue;
                int before = state.heightOf(mark);
                int after = meanTold(state, mark);
                state.putHeight(mark, after);
                if (after != before) changed = true;
            }
            return changed;
        }

        private int meanTold(State state, int mark) {
            long sum = 0;
            long weights = 0;
            for (int e = 0; e < edges.number; e++) {
                int other = edges.otherEnd(e, mark);
                if (other == NONE || !state.hasHeight(other)) continue;
                long weight = edges.weightOf(e);
                sum += weight * told(state, e, other);
                weights += weight;
            }
            return weights == 0 ? state.heightOf(mark) : (int) quotient(sum, weights);
        }

        long misfitOf(State state) {
            long misfit = 0;
            for (int e = 0; e < edges.number; e++) {
                int lesser = cell(edges.lesser, e);
                int greater = cell(edges.greater, e);
                if (!state.hasHeight(lesser) || !state.hasHeight(greater)) continue;
                long difference = (long) told(state, e, lesser) - state.heightOf(greater);
                misfit += difference * difference;
            }
            return misfit;
        }

        int tensionAt(State state, int mark) {
            if (!state.hasHeight(mark)) return NO_HEIGHT;
            int greatest = 0;
            for (int e = 0; e < edges.number; e++) {
                int other = edges.otherEnd(e, mark);
                if (other == NONE || !state.hasHeight(other)) continue;
                int difference = Math.abs(state.heightOf(mark) - told(state, e, other));
                if (difference > greatest) greatest = difference;
            }
            return greatest;
        }
    }

    /** Cuts a text into tokens, one at a time. */
    private static final class Tokens {
        static final int MARK = 0, AT = 1, SIGHT = 2, FORE_WORD = 3, BACK_WORD = 4, HEAT = 5;
        static final int LENGTH_WORD = 6, ERROR = 7, BEND_WORD = 8, WARM_WORD = 9, LIMIT_WORD = 10;
        static final int NAME = 11, NUMBER = 12, MINUS = 13, SEMICOLON = 14, AT_END = 15, WRONG = 16;

        final Text text;
        final int[] quoted;
        int kind = AT_END;
        int start = 0;
        int end = 0;
        int word = 0;
        int value = 0;

        Tokens(Text text) {
            this.text = text;
            quoted = new int[] {
                wordOf("mark"), wordOf("at"), wordOf("sight"), wordOf("fore"), wordOf("back"), wordOf("heat"),
                wordOf("length"), wordOf("error"), wordOf("bend"), wordOf("warm"), wordOf("limit")};
        }

        void restart() {
            end = 0;
            advance();
        }

        void advance() {
            start = end;
            while (start < text.length && isBlank(cell(text.bytes, start))) start++;
            end = start;
            int first = text.byteAt(start);
            if (isLetter(first)) {
                readWord();
            } else if (isDigit(first)) {
                readNumber();
            } else if (first == NONE) {
                kind = AT_END;
            } else {
                kind = first == '-' ? MINUS : first == ';' ? SEMICOLON : WRONG;
                end++;
            }
        }

        private void readWord() {
            word = 0;
            while (end < text.length && isLetter(cell(text.bytes, end))) {
                word = withLetter(word, cell(text.bytes, end));
                end++;
            }
            kind = end - start <= MAX_NAME ? NAME : WRONG;
            for (int i = 0; i < quoted.length && kind == NAME; i++) {
                if (quoted[i] == word) kind = i;
            }
        }

        private void readNumber() {
            value = 0;
            while (end < text.length && isDigit(cell(text.bytes, end))) {
                value = 10 * value + cell(text.bytes, end) - '0';
                end++;
            }
            kind = end - start <= MAX_DIGITS ? NUMBER : WRONG;
        }

        private static boolean isBlank(int value) {
            return value == ' ' || value == 10;
        }

        private static boolean isDigit(int value) {
            return value >= '0' && value <= '9';
        }
    }

    /** Reads a setup text into a wall and a state of its own, so that a wrong text changes nothing. */
    private static final class Reader {
        static final int TOLD_ERROR = SETTINGS;

        final Tokens tokens;
        final Wall wall = new Wall();
        final State state = new State();
        final int[] told = new int[SETTINGS + 1];
        int code = 0;
        int offset = NONE;
        int number = 0;

        Reader(Text text) {
            tokens = new Tokens(text);
        }

        boolean readText() {
            wall.marks = 0;
            state.clear();
            fill(told, 0);
            code = 0;
            offset = NONE;
            tokens.restart();
            for (int i = 0; i <= MAX_TEXT && tokens.kind != Tokens.AT_END; i++) {
                if (!readStatement() || !readSemicolon()) return false;
            }
            return true;
        }

        private boolean fail(int newCode) {
            code = newCode;
            offset = tokens.start;
            return false;
        }

        private boolean readSemicolon() {
            if (tokens.kind != Tokens.SEMICOLON) return fail(1);
            tokens.advance();
            return true;
        }

        private boolean readStatement() {
            switch (tokens.kind) {
                case Tokens.MARK: return readMark();
                case Tokens.SIGHT: return readSight();
                case Tokens.LENGTH_WORD: return readSetting(LENGTH, false);
                case Tokens.BEND_WORD: return readSetting(BEND, false);
                case Tokens.WARM_WORD: return readSetting(WARM, true);
                case Tokens.LIMIT_WORD: return readSetting(LIMIT, false);
                case Tokens.ERROR: return readError();
                default: return fail(1);
            }
        }

        private boolean readMark() {
            if (wall.marks >= MAX_MARKS) return fail(5);
            tokens.advance();
            if (tokens.kind != Tokens.NAME) return fail(1);
            if (wall.named(tokens.word) != NONE) return fail(3);
            int name = tokens.word;
            tokens.advance();
            if (tokens.kind != Tokens.NUMBER) return fail(1);
            if (wall.placedAt(tokens.value) != NONE) return fail(3);
            int mark = wall.add(name, tokens.value);
            tokens.advance();
            if (tokens.kind != Tokens.AT) return true;
            tokens.advance();
            if (!readNumber(true, -MAX_BENCH, MAX_BENCH)) return false;
            state.makeBench(mark, number);
            return true;
        }

        private boolean readSight() {
            if (state.sights >= MAX_SIGHTS) return fail(5);
            tokens.advance();
            int from = readMarkName(NONE);
            if (from == NONE) return false;
            int to = readMarkName(from);
            if (to == NONE) return false;
            if (tokens.kind != Tokens.FORE_WORD && tokens.kind != Tokens.BACK_WORD) return fail(1);
            int end = tokens.kind == Tokens.FORE_WORD ? FORE : BACK;
            tokens.advance();
            if (!readNumber(true, -MAX_READING, MAX_READING)) return false;
            int reading = number;
            int heat = USUAL_HEAT;
            if (tokens.kind == Tokens.HEAT) {
                tokens.advance();
                if (!readNumber(true, LEAST_HEAT, GREATEST_HEAT)) return false;
                heat = number;
            }
            state.add(from, to, end, reading, heat);
            return true;
        }

        /** Returns the mark that a sight names, which is not the other one; NONE behind a fault. */
        private int readMarkName(int other) {
            int mark = tokens.kind == Tokens.NAME ? wall.named(tokens.word) : NONE;
            if (mark != NONE && mark != other) {
                tokens.advance();
                return mark;
            }
            fail(tokens.kind != Tokens.NAME ? 1 : mark == NONE ? 4 : 3);
            return NONE;
        }

        private boolean readSetting(int what, boolean signed) {
            if (!tellOnce(what)) return false;
            if (!readNumber(signed, cell(LEAST_SETTING, what), cell(GREATEST_SETTING, what))) return false;
            put(state.settings, what, number);
            return true;
        }

        private boolean readError() {
            if (!tellOnce(TOLD_ERROR) || !readNumber(true, -MAX_ERROR, MAX_ERROR)) return false;
            state.errorTold = true;
            state.toldError = number;
            return true;
        }

        private boolean tellOnce(int what) {
            if (cell(told, what) == 1) return fail(3);
            put(told, what, 1);
            tokens.advance();
            return true;
        }

        private boolean readNumber(boolean signed, int least, int greatest) {
            boolean below = signed && tokens.kind == Tokens.MINUS;
            if (below) tokens.advance();
            if (tokens.kind != Tokens.NUMBER) return fail(1);
            number = below ? -tokens.value : tokens.value;
            if (number < least || number > greatest) return fail(2);
            tokens.advance();
            return true;
        }
    }
}
