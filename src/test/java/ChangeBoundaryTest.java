/** The boundaries of term 6 and of promises 38 to 42, 45 to 48, 53 and 54: changes, undo and the saved state. */
public final class ChangeBoundaryTest {
    private static final Check CHECK = new Check("ChangeBoundaryTest");
    private static final int LEAST = Boundary.LEAST;
    private static final int GREATEST = Boundary.GREATEST;
    private static final int KINDS = 13;

    public static void main(String[] args) throws IllegalAccessException {
        Boundary.runAll(CHECK, ChangeBoundaryTest.class);
    }

    private static SpiritWall small() {
        return Check.wall("mark a 0 at 100;mark b 1500;mark c 2500;sight a b fore 50;sight b c fore 24;sight c b fore -16;");
    }

    private static SpiritWall levelled() {
        SpiritWall x = small();
        x.level();
        return x;
    }

    /** One change of each kind; each makes a difference in a wall that was just levelled. */
    private static Object change(SpiritWall x, int kind) {
        switch (kind) {
            case 0: return x.addSight(2, 0, 1, -9999, 60);
            case 1: return x.strike(0, true);
            case 2: return x.swap(1, -9999);
            case 3: return x.fix(1, -99999);
            case 4: return x.free(0);
            case 5: return x.level();
            case 6: return x.relax(1);
            case 7: return x.tellError(-999);
            case 8: return x.findError();
            default: return x.set(kind - 9, new int[] {1, 99, -99, 0}[kind - 9]);
        }
    }

    /** One change of each kind that can leave all as it was. */
    private static Object same(SpiritWall x, int kind) {
        switch (kind) {
            case 0: return x.strike(0, false);
            case 1: return x.fix(0, 100);
            case 2: return x.level();
            case 3: return x.relax(50);
            case 4: return x.findError();
            case 5: return x.set(0, 1000);
            case 6: return x.set(1, 0);
            case 7: return x.set(2, 0);
            default: return x.set(3, 10);
        }
    }

    // ---- term 6

    @Says(at = "Term 6", text = "when they succeed (also if nothing is different then)")
    static void term6NothingDifferent() {
        for (int kind = 0; kind < 9; kind++) {
            SpiritWall x = levelled();
            x.undo();
            x.level();
            String before = Boundary.state(x);
            same(x, kind);
            CHECK.due("kind " + kind, before.replace("changes 1", "changes 2"), Boundary.state(x));
            CHECK.due("undone kind " + kind, 1, x.undo());
            CHECK.due("as before kind " + kind, before, Boundary.state(x));
        }
        SpiritWall x = small();
        x.tellError(7);
        x.tellError(7);
        x.strike(0, true);
        x.strike(0, true);
        CHECK.due("twice the same", 4, x.count(9));
    }

    @Says(at = "Term 6", text = "The latest 10 changes can be undone")
    static void term6TenChanges() {
        for (int made = 0; made <= 35; made++) {
            SpiritWall x = small();
            for (int i = 1; i <= made; i++) x.set(3, i);
            int undone = Math.min(made, 10);
            CHECK.due("behind " + made, undone, x.count(9));
            for (int i = 1; i <= undone; i++) {
                CHECK.due("undo " + i + " of " + made, undone - i, x.undo());
                CHECK.due("limit behind " + i + " of " + made, made - i == 0 ? 10 : made - i, x.setting(3));
            }
            CHECK.due("one more of " + made, Check.STATE, Boundary.answer(x, y -> y.undo()));
            CHECK.due("stays", made - undone == 0 ? 10 : made - undone, x.setting(3));
        }
    }

    @Says(at = "Term 6", text = "Changes are the methods of the section \"Changes\" below, apart from undo")
    static void term6EachKind() {
        for (int kind = 0; kind < KINDS; kind++) {
            SpiritWall x = small();
            change(x, kind);
            CHECK.due("kind " + kind, 1, x.count(9));
            x.undo();
            CHECK.due("undone kind " + kind, Boundary.all(small()), Boundary.all(x));
        }
        SpiritWall x = small();
        for (int kind = 3; kind < KINDS; kind++) change(x, kind);
        CHECK.due("ten kinds", 10, x.count(9));
        for (int kind = KINDS - 1; kind >= 3; kind--) {
            CHECK.due("undo " + kind, kind - 3, x.undo());
            SpiritWall y = small();
            for (int i = 3; i < kind; i++) change(y, i);
            CHECK.due("as ahead of " + kind, Boundary.state(y), Boundary.state(x));
        }
    }

    @Says(at = "Term 6", text = "the input buffer, the error code, the output and the saved state stay as they are")
    static void term6Stay() {
        for (int kind = 0; kind < KINDS; kind++) {
            SpiritWall x = Boundary.busy();
            change(x, kind);
            x.undo();
            CHECK.due("undone kind " + kind, Boundary.all(Boundary.busy()), Boundary.all(x));
            x = Boundary.busy();
            change(x, kind);
            CHECK.due("the buffer behind kind " + kind, "true false", x.truncate(14) + " " + x.truncate(15));
            CHECK.due("the error behind kind " + kind, "3 14", x.errorCode() + " " + x.errorOffset());
            CHECK.due("the output behind kind " + kind, Check.output(Boundary.busy()), Check.output(x));
        }
    }

    @Says(at = "Term 6", text = "Heights stay as they are when sights or settings change, until the marks are levelled or relaxed")
    static void term6HeightsStay() {
        for (int kind = 0; kind < KINDS; kind++) {
            if (kind >= 3 && kind <= 6) continue;
            SpiritWall x = levelled();
            String heights = x.height(0) + " " + x.height(1) + " " + x.height(2);
            change(x, kind);
            CHECK.due("kind " + kind, heights, x.height(0) + " " + x.height(1) + " " + x.height(2));
        }
        SpiritWall x = levelled();
        x.swap(0, -9999);
        x.relax(1);
        CHECK.due("relaxed", true, x.height(1) != 150);
    }

    @Says(at = "Term 6", text = "if several ones apply, IndexOutOfBoundsException comes first, then IllegalArgumentException, then"
            + " IllegalStateException")
    static void term6Order() {
        Boundary.refused(CHECK, "swap, both", Check.INDEX, x -> x.swap(4, 10000));
        Boundary.refused(CHECK, "fix, both", Check.INDEX, x -> x.fix(4, 100000));
        Boundary.refused(CHECK, "free, mark and state", Check.INDEX, x -> x.free(4));
        Boundary.refused(CHECK, "addSight, the second mark and all else", Check.INDEX, x -> x.addSight(0, 4, 2, 10000, 61));
        Boundary.refused(CHECK, "addSight, no mark twice", Check.INDEX, x -> x.addSight(4, 4, 0, 0, 0));
        Boundary.refused(CHECK, "sight", Check.INDEX, x -> x.sight(4, 10));
        Boundary.refused(CHECK, "edge", Check.INDEX, x -> x.edge(0, 4, 7));
        Boundary.refused(CHECK, "loop", Check.INDEX, x -> x.loop(1, 6));
        Boundary.refused(CHECK, "mark", Check.INDEX, x -> x.mark(4, 5));
        SpiritWall full = Boundary.full();
        CHECK.due("full, mark", Check.INDEX, Boundary.answer(full, x -> x.addSight(12, 0, 0, 0, 0)));
        CHECK.due("full, the second mark and heat", Check.INDEX, Boundary.answer(full, x -> x.addSight(0, 12, 0, 0, 61)));
        CHECK.due("full, the same mark", Check.ARGUMENT, Boundary.answer(full, x -> x.addSight(0, 0, 0, 0, 0)));
        CHECK.due("full, end", Check.ARGUMENT, Boundary.answer(full, x -> x.addSight(0, 1, 2, 0, 0)));
        CHECK.due("full, reading", Check.ARGUMENT, Boundary.answer(full, x -> x.addSight(0, 1, 0, 10000, 0)));
        CHECK.due("full, heat", Check.ARGUMENT, Boundary.answer(full, x -> x.addSight(0, 1, 0, 0, 61)));
        CHECK.due("full", Check.STATE, Boundary.answer(full, x -> x.addSight(0, 1, 0, 0, 0)));
        CHECK.due("nothing is different", "40 0 10", full.count(2) + " " + full.count(3) + " " + full.count(9));
    }

    @Says(at = "Term 6", text = "Edges are told by two marks, in any order; two marks that are the same are no edge")
    static void term6AnyOrder() {
        SpiritWall x = Boundary.busy();
        for (int what = 0; what < 7; what++) {
            CHECK.due("what " + what, x.edge(0, 2, what), x.edge(2, 0, what));
            CHECK.due("same mark " + what, "-1 -1", x.edge(0, 0, what) + " " + x.edge(3, 3, what));
        }
        CHECK.due("same mark", "-10000000 -10000000", x.rise(1, 1) + " " + x.estimate(1, 1));
    }

    @Says(at = "Term 6", text = "A method that throws changes nothing")
    static void term6FullThrows() {
        SpiritWall x = Boundary.full();
        x.saveState();
        SpiritWall y = Boundary.full();
        y.saveState();
        Boundary.answer(x, z -> z.addSight(0, 1, 0, 0, 0));
        Boundary.answer(x, z -> z.addSight(0, 0, 0, 0, 0));
        Boundary.answer(x, z -> z.strike(40, true));
        Boundary.answer(x, z -> z.swap(39, 10000));
        Boundary.answer(x, z -> z.fix(12, 0));
        Boundary.answer(x, z -> z.free(11));
        CHECK.due("state", Boundary.state(y), Boundary.state(x));
        for (int left = 9; left >= 0; left--) CHECK.due("undo", left + " " + (30 + left), x.undo() + " " + x.count(2));
        CHECK.due("saved", 40, x.restoreState());
    }

    // ---- what there is, and what would be

    private static void leavesAll(String label, Boundary.Ask ask) {
        SpiritWall x = Boundary.busy();
        ask.of(x);
        CHECK.due(label, Boundary.all(Boundary.busy()), Boundary.all(x));
    }

    @Says(at = "Constants", text = "---- what there is")
    static void whatThereIsChangesNothing() {
        leavesAll("count", x -> x.count(6));
        leavesAll("setting", x -> x.setting(0));
        leavesAll("levelError", x -> x.levelError());
        leavesAll("estimate", x -> x.estimate(1, 2));
        leavesAll("mark", x -> x.mark(1, 4));
        leavesAll("height", x -> x.height(1));
        leavesAll("whyNone", x -> x.whyNone(1));
        leavesAll("sight", x -> x.sight(1, 9));
        leavesAll("rise", x -> x.rise(1, 2));
        leavesAll("edge", x -> x.edge(1, 2, 6));
        leavesAll("along", x -> x.along(0, 2));
        leavesAll("loop", x -> x.loop(0, 4));
        leavesAll("loopMark", x -> x.loopMark(0, 2));
        leavesAll("worstLoop", x -> x.worstLoop());
        leavesAll("suspect", x -> x.suspect());
        leavesAll("outlier", x -> x.outlier());
        leavesAll("misfit", x -> x.misfit());
        leavesAll("tension", x -> x.tension(0));
        leavesAll("tensest", x -> x.tensest());
        leavesAll("neighbour", x -> x.neighbour(0, 1));
        leavesAll("loopsOf", x -> x.loopsOf(0));
        leavesAll("bridges", x -> x.bridges());
        leavesAll("meanSwings", x -> x.meanSwings());
        leavesAll("closedShare", x -> x.closedShare());
        leavesAll("errorCode", x -> x.errorCode());
        leavesAll("errorOffset", x -> x.errorOffset());
        leavesAll("outputByte", x -> x.outputByte(0));
    }

    @Says(at = "Constants", text = "what would be; nothing changes (a found error, edges, forest and loops are found anew)")
    static void whatWouldBeChangesNothing() {
        leavesAll("closedIf", x -> x.closedIf(0));
        leavesAll("closedIf of one struck out", x -> x.closedIf(1));
        leavesAll("bestStrike", x -> x.bestStrike());
        leavesAll("errorWith", x -> x.errorWith(1));
        leavesAll("misfitAfter", x -> x.misfitAfter(50));
        leavesAll("heightIf", x -> x.heightIf(2));
        leavesAll("leastLimit", x -> x.leastLimit());
        SpiritWall x = Boundary.busy();
        String edges = edges(x);
        x.closedIf(0);
        x.bestStrike();
        x.errorWith(9999);
        x.misfitAfter(50);
        x.heightIf(2);
        CHECK.due("edges behind it", edges, edges(x));
    }

    private static String edges(SpiritWall x) {
        StringBuilder text = new StringBuilder();
        for (int what = 0; what < 7; what++) text.append(x.edge(0, 1, what)).append(' ').append(x.edge(1, 2, what)).append(' ');
        return text.append(x.rise(0, 1)).append(' ').append(x.along(0, 2)).append(' ').append(x.misfit()).toString();
    }

    // ---- promises 38 to 42

    @Says(at = "Promise 38", text = "Throws `IndexOutOfBoundsException` if there is no such mark")
    static void promise38Refused() {
        for (int mark : Boundary.WRONG_MARKS) {
            Boundary.refused(CHECK, "from " + mark, Check.INDEX, x -> x.addSight(mark, 0, 0, 0, 0));
            Boundary.refused(CHECK, "to " + mark, Check.INDEX, x -> x.addSight(0, mark, 0, 0, 0));
            Boundary.refused(CHECK, "both " + mark, Check.INDEX, x -> x.addSight(mark, mark, 0, 0, 0));
        }
        Boundary.refused(CHECK, "no marks", Check.INDEX, SpiritWall::new, x -> x.addSight(0, 0, 0, 0, 0));
        Boundary.refused(CHECK, "one mark", Check.INDEX, () -> Check.wall("mark a 5;"), x -> x.addSight(0, 1, 0, 0, 0));
    }

    @Says(at = "Promise 38", text = "Throws `IllegalArgumentException` if both marks are the same, or end, reading or heat is out of range")
    static void promise38Arguments() {
        for (int m = 0; m < 4; m++) {
            int mark = m;
            Boundary.refused(CHECK, "the same " + m, Check.ARGUMENT, x -> x.addSight(mark, mark, 0, 0, 0));
        }
        for (int end : new int[] {-1, 2, LEAST, GREATEST}) {
            Boundary.refused(CHECK, "end " + end, Check.ARGUMENT, x -> x.addSight(0, 1, end, 0, 0));
        }
        for (int reading : new int[] {-10000, 10000, LEAST, GREATEST}) {
            Boundary.refused(CHECK, "reading " + reading, Check.ARGUMENT, x -> x.addSight(0, 1, 0, reading, 0));
        }
        for (int heat : new int[] {-41, 61, LEAST, GREATEST}) {
            Boundary.refused(CHECK, "heat " + heat, Check.ARGUMENT, x -> x.addSight(0, 1, 1, 0, heat));
        }
    }

    @Says(at = "Promise 38", text = "Adds a sight that is not struck out")
    static void promise38LeastAndGreatest() {
        SpiritWall x = Boundary.busy();
        CHECK.due("least", 4, x.addSight(3, 0, 0, -9999, -40));
        CHECK.due("greatest", 5, x.addSight(0, 3, 1, 9999, 60));
        CHECK.due("both", "3 0 0 -9999 -40 0, 0 3 1 9999 60 0", Boundary.sight(x, 4) + ", " + Boundary.sight(x, 5));
        x.strike(5, true);
        x.undo();
        x.strike(4, true);
        x.undo();
        x.undo();
        CHECK.due("in place of one that was undone", "5 3 1 0 0 0 0", x.addSight(3, 1, 0, 0, 0) + " " + Boundary.sight(x, 5));
    }

    @Says(at = "Promise 38", text = "Throws `IllegalStateException` if there are 40 sights")
    static void promise38Forty() {
        SpiritWall x = Boundary.two(5, "");
        for (int s = 0; s < 40; s++) CHECK.due("sight " + s, s, x.addSight(s % 2, 1 - s % 2, s % 2, s, 20));
        CHECK.due("41st", Check.STATE, Boundary.answer(x, y -> y.addSight(0, 1, 0, 0, 0)));
        CHECK.due("nothing is different", "40 10", x.count(2) + " " + x.count(9));
        for (int s = 0; s < 40; s++) CHECK.due("reading of " + s, s, x.sight(s, 3));
        x.strike(0, true);
        CHECK.due("struck out ones count", Check.STATE, Boundary.answer(x, y -> y.addSight(0, 1, 0, 0, 0)));
        x.undo();
        CHECK.due("the 40th undone", 8, x.undo());
        CHECK.due("39", 39, x.count(2));
        CHECK.due("the 40th again", 39, x.addSight(0, 1, 0, 77, 20));
        CHECK.due("its reading", 77, x.sight(39, 3));
        CHECK.due("41st again", Check.STATE, Boundary.answer(x, y -> y.addSight(0, 1, 0, 0, 0)));
    }

    @Says(at = "Promise 39", text = "Throws `IndexOutOfBoundsException` if there is no such sight")
    static void promise39Refused() {
        for (int sight : Boundary.WRONG_SIGHTS) {
            Boundary.refused(CHECK, "strike " + sight, Check.INDEX, x -> x.strike(sight, true));
            Boundary.refused(CHECK, "not any more " + sight, Check.INDEX, x -> x.strike(sight, false));
        }
        Boundary.refused(CHECK, "no sights", Check.INDEX, () -> Boundary.two(5, ""), x -> x.strike(0, true));
    }

    @Says(at = "Promise 39", text = "Returns whether it was struck out before")
    static void promise39Before() {
        SpiritWall x = Boundary.full();
        for (int sight : new int[] {0, 39}) {
            CHECK.due("sight " + sight, "false true true false", x.strike(sight, true) + " " + x.strike(sight, true) + " "
                    + x.strike(sight, false) + " " + x.strike(sight, false));
            CHECK.due("struck out ones behind " + sight, 0, x.count(3));
        }
    }

    @Says(at = "Promise 40", text = "Throws `IndexOutOfBoundsException` if there is no such sight")
    static void promise40Refused() {
        for (int sight : Boundary.WRONG_SIGHTS) {
            Boundary.refused(CHECK, "swap " + sight, Check.INDEX, x -> x.swap(sight, 0));
            Boundary.refused(CHECK, "swap to a wrong reading " + sight, Check.INDEX, x -> x.swap(sight, LEAST));
        }
        Boundary.refused(CHECK, "no sights", Check.INDEX, SpiritWall::new, x -> x.swap(0, 0));
    }

    @Says(at = "Promise 40", text = "Throws `IllegalArgumentException` if reading is out of range")
    static void promise40Reading() {
        for (int reading : new int[] {-10000, 10000, LEAST, GREATEST}) {
            Boundary.refused(CHECK, "reading " + reading, Check.ARGUMENT, x -> x.swap(0, reading));
            Boundary.refused(CHECK, "reading " + reading + " of one struck out", Check.ARGUMENT, x -> x.swap(1, reading));
        }
    }

    @Says(at = "Promise 40", text = "it gets another reading, and the other end")
    static void promise40LeastAndGreatest() {
        SpiritWall x = Boundary.full();
        CHECK.due("least", "1 9999", x.swap(39, 9999) + " " + x.sight(39, 3));
        CHECK.due("greatest", "0 -9999", x.swap(39, -9999) + " " + x.sight(39, 3));
        CHECK.due("the same reading", "1 -9999", x.swap(39, -9999) + " " + x.sight(39, 3));
        CHECK.due("the rest stays", "1 6 1 -9999 20 0", Boundary.sight(x, 39));
    }

    @Says(at = "Promise 41", text = "Throws `IndexOutOfBoundsException` if there is no such mark")
    static void promise41Refused() {
        for (int mark : Boundary.WRONG_MARKS) {
            Boundary.refused(CHECK, "fix " + mark, Check.INDEX, x -> x.fix(mark, 0));
            Boundary.refused(CHECK, "fix at a wrong height " + mark, Check.INDEX, x -> x.fix(mark, GREATEST));
        }
        Boundary.refused(CHECK, "no marks", Check.INDEX, SpiritWall::new, x -> x.fix(0, 0));
    }

    @Says(at = "Promise 41", text = "Throws `IllegalArgumentException` if height is out of range")
    static void promise41Height() {
        for (int height : new int[] {-100000, 100000, SpiritWall.NO_HEIGHT, LEAST, GREATEST}) {
            Boundary.refused(CHECK, "height " + height + " of a bench", Check.ARGUMENT, x -> x.fix(0, height));
            Boundary.refused(CHECK, "height " + height + " of no bench", Check.ARGUMENT, x -> x.fix(1, height));
        }
    }

    @Says(at = "Promise 41", text = "Makes a mark a bench, or sets the height of a bench")
    static void promise41LeastAndGreatest() {
        SpiritWall x = Check.wall(Boundary.marks(12, 1));
        CHECK.due("least", "false -99999 1", x.fix(11, -99999) + " " + x.height(11) + " " + x.count(1));
        CHECK.due("greatest", "true 99999 1", x.fix(11, 99999) + " " + x.height(11) + " " + x.count(1));
        CHECK.due("0", "true 0 1", x.fix(11, 0) + " " + x.height(11) + " " + x.count(1));
        for (int m = 0; m < 11; m++) CHECK.due("mark " + m, "false " + (m + 2), x.fix(m, m) + " " + x.count(1));
        x.free(5);
        CHECK.due("a height of no bench", "false 7", x.fix(5, 7) + " " + x.height(5));
    }

    @Says(at = "Promise 42", text = "Throws `IndexOutOfBoundsException` if there is no such mark")
    static void promise42Refused() {
        for (int mark : Boundary.WRONG_MARKS) Boundary.refused(CHECK, "free " + mark, Check.INDEX, x -> x.free(mark));
        Boundary.refused(CHECK, "no marks", Check.INDEX, SpiritWall::new, x -> x.free(0));
    }

    @Says(at = "Promise 42", text = "Throws `IllegalStateException` if it is no bench")
    static void promise42NoBench() {
        Boundary.refused(CHECK, "with a height", Check.STATE, x -> x.free(1));
        Boundary.refused(CHECK, "without one", Check.STATE, () -> Check.wall("mark a 5;"), x -> x.free(0));
        Boundary.refused(CHECK, "freed", Check.STATE, () -> {
            SpiritWall x = Boundary.busy();
            x.free(0);
            return x;
        }, x -> x.free(0));
    }

    @Says(at = "Promise 42", text = "Makes a bench a mark that is no bench; it keeps its height")
    static void promise42KeepsItsHeight() {
        SpiritWall x = Check.wall("mark a 1 at -99999;mark b 2 at 99999;mark c 3 at 0;");
        CHECK.due("of three", "2 -99999 0", x.free(0) + " " + x.height(0) + " " + x.mark(0, 1));
        CHECK.due("of two", "1 99999 0", x.free(1) + " " + x.height(1) + " " + x.mark(1, 1));
        CHECK.due("of one", "0 0 0", x.free(2) + " " + x.height(2) + " " + x.mark(2, 1));
        CHECK.due("heights", 3, x.count(8));
    }

    // ---- promises 45 to 47

    @Says(at = "Promise 45", text = "Throws `IllegalArgumentException` if error is out of range")
    static void promise45Refused() {
        for (int error : new int[] {-1000, 1000, LEAST, GREATEST}) {
            Boundary.refused(CHECK, "error " + error, Check.ARGUMENT, x -> x.tellError(error));
            Boundary.refused(CHECK, "error " + error + " of nothing", Check.ARGUMENT, SpiritWall::new, x -> x.tellError(error));
        }
    }

    @Says(at = "Promise 45", text = "Returns the error before, told or found")
    static void promise45Before() {
        SpiritWall x = Boundary.two(5, "sight a b fore 9999;sight a b back -9999;");
        CHECK.due("found", "9999 -999 1", x.tellError(-999) + " " + x.levelError() + " " + x.setting(4));
        CHECK.due("least", "-999 999 1", x.tellError(999) + " " + x.levelError() + " " + x.setting(4));
        CHECK.due("greatest", "999 0 1", x.tellError(0) + " " + x.levelError() + " " + x.setting(4));
        CHECK.due("0", "0 0 1", x.tellError(0) + " " + x.levelError() + " " + x.setting(4));
        CHECK.due("undone to the found one", "0 9999 0", unwound(x) + " " + x.levelError() + " " + x.setting(4));
        CHECK.due("nothing", 0, new SpiritWall().tellError(5));
    }

    private static int unwound(SpiritWall x) {
        while (x.count(9) > 0) x.undo();
        return x.count(9);
    }

    @Says(at = "Promise 46", text = "Returns the error then")
    static void promise46Then() {
        CHECK.due("nothing", 0, new SpiritWall().findError());
        SpiritWall x = Boundary.two(5, "error -999;sight a b fore 9999;sight a b back -9999;");
        CHECK.due("found", "9999 0", x.findError() + " " + x.setting(4));
        CHECK.due("found again", "9999 0 2", x.findError() + " " + x.setting(4) + " " + x.count(9));
        x.undo();
        x.undo();
        CHECK.due("undone", "-999 1", x.levelError() + " " + x.setting(4));
        x.findError();
        x.strike(0, true);
        CHECK.due("from now on", 0, x.levelError());
    }

    @Says(at = "Promise 47", text = "Throws `IllegalArgumentException` if what or value is out of range")
    static void promise47Refused() {
        int[][] wrong = {{0, -1, 10000}, {-1, -99, 100}, {-100, 100, GREATEST}, {-1, 1000, LEAST}};
        for (int what = 0; what < 4; what++) {
            int setting = what;
            for (int value : wrong[what]) Boundary.refused(CHECK, what + " to " + value, Check.ARGUMENT, x -> x.set(setting, value));
            Boundary.refused(CHECK, what + " to the least", Check.ARGUMENT, x -> x.set(setting, LEAST));
            Boundary.refused(CHECK, what + " to the greatest", Check.ARGUMENT, x -> x.set(setting, GREATEST));
        }
        for (int what : new int[] {-1, 4, 5, LEAST, GREATEST}) {
            for (int value = -1; value <= 1; value++) {
                int small = value;
                Boundary.refused(CHECK, "what " + what + " to " + value, Check.ARGUMENT, x -> x.set(what, small));
            }
            Boundary.refused(CHECK, "what and value " + what, Check.ARGUMENT, x -> x.set(what, LEAST));
        }
    }

    @Says(at = "Promise 47", text = "Returns the value before")
    static void promise47LeastAndGreatest() {
        int[][] due = {{1000, 1, 9999}, {0, 0, 99}, {0, -99, 99}, {10, 0, 999}};
        SpiritWall x = new SpiritWall();
        for (int what = 0; what < 4; what++) {
            CHECK.due(what + " at first", due[what][0] + " " + due[what][1], x.set(what, due[what][1]) + " " + x.setting(what));
            CHECK.due(what + " least", due[what][1] + " " + due[what][2], x.set(what, due[what][2]) + " " + x.setting(what));
            CHECK.due(what + " greatest", due[what][2] + " " + due[what][2], x.set(what, due[what][2]) + " " + x.setting(what));
        }
    }

    // ---- promise 48

    @Says(at = "Promise 48", text = "Throws `IllegalStateException` if there is none")
    static void promise48Refused() {
        Boundary.refused(CHECK, "nothing", Check.STATE, SpiritWall::new, x -> x.undo());
        Boundary.refused(CHECK, "no change", Check.STATE, ChangeBoundaryTest::small, x -> x.undo());
        Boundary.refused(CHECK, "all undone", Check.STATE, () -> {
            SpiritWall x = levelled();
            x.undo();
            return x;
        }, x -> x.undo());
        Boundary.refused(CHECK, "restored", Check.STATE, () -> {
            SpiritWall x = Boundary.busy();
            x.restoreState();
            return x;
        }, x -> x.undo());
    }

    @Says(at = "Promise 48", text = "Undoes the latest change that was not undone yet")
    static void promise48NotUndoneYet() {
        SpiritWall x = small();
        for (int i = 1; i <= 12; i++) x.set(3, i);
        CHECK.due("twelve, undone", "9 11", x.undo() + " " + x.setting(3));
        CHECK.due("eleven, undone", "8 10", x.undo() + " " + x.setting(3));
        x.set(3, 100);
        x.set(3, 101);
        CHECK.due("two others", 10, x.count(9));
        x.set(3, 102);
        CHECK.due("three others", 10, x.count(9));
        int[] due = {101, 100, 10, 9, 8, 7, 6, 5, 4, 3};
        for (int i = 0; i < 10; i++) CHECK.due("undo " + i, 9 - i + " " + due[i], x.undo() + " " + x.setting(3));
        CHECK.due("one more", Check.STATE, Boundary.answer(x, y -> y.undo()));
        x.set(3, 50);
        CHECK.due("a new one", "0 3", x.undo() + " " + x.setting(3));
    }

    @Says(at = "Promise 48", text = "Returns the number of changes that can still be undone")
    static void promise48WrapAround() {
        SpiritWall x = small();
        int[] limits = new int[200];
        int made = 0;
        int kept = 0;
        limits[0] = 10;
        for (int round = 0; round < 12; round++) {
            for (int i = 0; i < 7; i++) {
                made++;
                limits[made] = 100 + 8 * round + i;
                x.set(3, limits[made]);
                kept = Math.min(10, kept + 1);
            }
            for (int i = 0; i < 4 + round % 2; i++) {
                made--;
                kept--;
                CHECK.due("round " + round + " undo " + i, kept + " " + limits[made], x.undo() + " " + x.setting(3));
            }
        }
    }

    @Says(at = "Promise 48", text = "Undoes the latest change")
    static void promise48RefusedCallsAreNoChanges() {
        SpiritWall x = levelled();
        Boundary.answer(x, y -> y.addSight(0, 0, 0, 0, 0));
        Boundary.answer(x, y -> y.strike(3, true));
        Boundary.answer(x, y -> y.swap(0, 10000));
        Boundary.answer(x, y -> y.fix(0, 100000));
        Boundary.answer(x, y -> y.free(1));
        Boundary.answer(x, y -> y.relax(0));
        Boundary.answer(x, y -> y.tellError(1000));
        Boundary.answer(x, y -> y.set(0, 0));
        Boundary.answer(x, y -> y.restoreState());
        x.saveState();
        x.printMarks();
        x.heightIf(1);
        x.closedIf(0);
        x.bestStrike();
        x.misfitAfter(50);
        Check.parse(x, "x");
        CHECK.due("changes", 1, x.count(9));
        CHECK.due("undo", "0 -10000000", x.undo() + " " + x.height(1));
    }

    // ---- promises 53 and 54

    @Says(at = "Promise 53", text = "Returns the number of sights, struck out or not")
    static void promise53NoneAndForty() {
        CHECK.due("nothing", "0 0", new SpiritWall().saveState() + " " + Boundary.two(5, "").saveState());
        SpiritWall x = Boundary.full();
        x.strike(0, true);
        x.strike(39, true);
        CHECK.due("forty", 40, x.saveState());
        x.undo();
        x.undo();
        x.undo();
        CHECK.due("39 now", 39, x.count(2));
        CHECK.due("forty again", "40 40 2", x.restoreState() + " " + x.count(2) + " " + x.count(3));
    }

    @Says(at = "Promise 53", text = "Saves everything but the input buffer, the error code and its offset, the output and the changes that can be"
            + " undone, in place of an earlier saved state")
    static void promise53InPlace() {
        for (int kind = 0; kind < KINDS; kind++) {
            SpiritWall x = levelled();
            x.saveState();
            change(x, kind);
            String later = Boundary.state(x).replace("changes 2", "changes 0");
            x.saveState();
            CHECK.due("saving is no change " + kind, 2, x.count(9));
            change(x, (kind + 1) % KINDS);
            x.restoreState();
            CHECK.due("the later one " + kind, later, Boundary.state(x));
        }
        SpiritWall x = Boundary.busy();
        SpiritWall y = Boundary.busy();
        x.saveState();
        CHECK.due("output", Check.output(y), Check.output(x));
        CHECK.due("error", "3 14", x.errorCode() + " " + x.errorOffset());
        CHECK.due("buffer", "true false", x.truncate(14) + " " + x.truncate(15));
        CHECK.due("changes", 4, x.count(9));
    }

    @Says(at = "Promise 54", text = "Throws `IllegalStateException` if no state is saved")
    static void promise54Refused() {
        Boundary.refused(CHECK, "nothing", Check.STATE, SpiritWall::new, x -> x.restoreState());
        Boundary.refused(CHECK, "changes", Check.STATE, ChangeBoundaryTest::levelled, x -> x.restoreState());
        SpiritWall x = Boundary.busy();
        x.parse();
        CHECK.due("behind a right text", Check.STATE, Boundary.answer(x, y -> y.restoreState()));
        x = Boundary.busy();
        x.truncate(4);
        x.parse();
        CHECK.due("behind a wrong text", "4", Boundary.answer(x, y -> y.restoreState()));
    }

    @Says(at = "Promise 54", text = "Restores the saved state, which stays saved")
    static void promise54StaysSaved() {
        for (int kind = 0; kind < KINDS; kind++) {
            SpiritWall x = levelled();
            String saved = Boundary.state(x).replace("changes 1", "changes 0");
            x.saveState();
            for (int i = 0; i < 3; i++) {
                change(x, kind);
                CHECK.due("sights " + i + " behind " + kind, 3, x.restoreState());
                CHECK.due("restored " + i + " behind " + kind, saved, Boundary.state(x));
            }
            CHECK.due("at once again behind " + kind, 3, x.restoreState());
            CHECK.due("and the same behind " + kind, saved, Boundary.state(x));
        }
    }

    @Says(at = "Promise 54", text = "Nothing can be undone then")
    static void promise54NothingToUndo() {
        SpiritWall x = Boundary.busy();
        CHECK.due("before", 4, x.count(9));
        x.restoreState();
        CHECK.due("then", "0 IllegalStateException", x.count(9) + " " + Boundary.answer(x, y -> y.undo()));
        CHECK.due("output", Check.output(Boundary.busy()), Check.output(x));
        CHECK.due("error", "3 14", x.errorCode() + " " + x.errorOffset());
        CHECK.due("buffer", "true false", x.truncate(14) + " " + x.truncate(15));
        x.level();
        CHECK.due("a change behind it", "1 0", x.count(9) + " " + x.undo());
    }

    @Says(at = "Promise 54", text = "Returns the number of sights, struck out or not")
    static void promise54NoneAndForty() {
        SpiritWall x = new SpiritWall();
        x.saveState();
        CHECK.due("nothing", 0, x.restoreState());
        x = Boundary.two(5, "");
        x.saveState();
        for (int s = 0; s < 40; s++) x.addSight(0, 1, 0, s, 20);
        CHECK.due("none again", "0 0 0", x.restoreState() + " " + x.count(2) + " " + x.count(4));
        CHECK.due("the first sight again", "0 0 1 0 7 20 0", x.addSight(0, 1, 0, 7, 20) + " " + Boundary.sight(x, 0));
    }
}
