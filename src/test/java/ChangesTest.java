/** Promises 34, 38 to 42, 45 to 48, 53 and 54: changes, undoing them, and the saved state. */
public final class ChangesTest {
    private static final Check CHECK = new Check("ChangesTest");
    private static final int NO_HEIGHT = SpiritWall.NO_HEIGHT;
    /** The error is found to be 4 with the length 1000; the rises are then 50, 20 and 71. */
    private static final String BASE = "mark a 0 at 100; mark b 1500; mark c 2500; mark d 9000; sight a b fore 50;"
            + "sight b c fore 24; sight c b fore -16; sight a c fore 75; sight c a back -75;";

    public static void main(String[] args) {
        promise34();
        promise38();
        promise38Wrong();
        promise39();
        promise40();
        promise41();
        promise42();
        promises45And46();
        promise47();
        promise48();
        promise48EachChange();
        promise48What();
        promises53And54();
        CHECK.end();
    }

    private static String sight(SpiritWall x, int number) {
        StringBuilder text = new StringBuilder();
        for (int what = 0; what < 6; what++) text.append(what > 0 ? " " : "").append(x.sight(number, what));
        return text.toString();
    }

    /** All that can be seen of the settings, benches, heights and sights. */
    private static String seen(SpiritWall x) {
        StringBuilder text = new StringBuilder();
        for (int what = 0; what < 5; what++) text.append(x.setting(what)).append(' ');
        text.append(x.levelError());
        for (int m = 0; m < x.count(0); m++) text.append(", ").append(x.mark(m, 1)).append(' ').append(x.height(m));
        for (int s = 0; s < x.count(2); s++) text.append(", ").append(sight(x, s));
        return text.toString();
    }

    private static void promise34() {
        SpiritWall x = Check.wall(BASE + "error 9; sight a b back 40; sight a c back 6;");
        CHECK.due("34 two estimates", 4, x.errorWith(1000));
        CHECK.due("34 even swings", 0, x.errorWith(250));
        CHECK.due("34 all odd", 5, x.errorWith(9999));
        CHECK.due("34 one swing of a b and b c", 4, x.errorWith(1500));
        CHECK.due("34 one swing each", 5, x.errorWith(2500));
        CHECK.due("34 nothing changes", "1000 1 9 0", x.setting(0) + " " + x.setting(4) + " " + x.levelError() + " " + x.count(9));
        CHECK.due("34 least", 0, x.errorWith(1));
        CHECK.dueThrow("34 below", Check.ARGUMENT, () -> x.errorWith(0));
        CHECK.dueThrow("34 above", Check.ARGUMENT, () -> x.errorWith(10000));
    }

    private static void promise38() {
        SpiritWall x = Check.wall(BASE);
        CHECK.due("38 number", 5, x.addSight(3, 0, SpiritWall.BACK, -9999, -40));
        CHECK.due("38 sight", "3 0 1 -9999 -40 0", sight(x, 5));
        CHECK.due("38 next number", 6, x.addSight(0, 3, SpiritWall.FORE, 9999, 60));
        CHECK.due("38 next sight", "0 3 0 9999 60 0", sight(x, 6));
        CHECK.due("38 number of changes", 2, x.count(9));
        x.strike(6, true);
        x.undo();
        x.undo();
        CHECK.due("38 same number again", 6, x.addSight(1, 3, 0, 1, 2));
        CHECK.due("38 not struck out", "1 3 0 1 2 0", sight(x, 6));
        x.level();
        x.addSight(1, 0, 0, -9999, 20);
        CHECK.due("38 heights stay", 150, x.height(1));
    }

    private static void promise38Wrong() {
        SpiritWall x = Check.wall(BASE);
        String before = seen(x);
        CHECK.dueThrow("38 from below", Check.INDEX, () -> x.addSight(-1, 0, 2, 0, 0));
        CHECK.dueThrow("38 from above", Check.INDEX, () -> x.addSight(4, 0, 0, 0, 0));
        CHECK.dueThrow("38 to below", Check.INDEX, () -> x.addSight(0, -1, 0, 99999, 0));
        CHECK.dueThrow("38 to above", Check.INDEX, () -> x.addSight(0, 4, 0, 0, 99));
        CHECK.dueThrow("38 same mark above", Check.INDEX, () -> x.addSight(4, 4, 0, 0, 0));
        CHECK.dueThrow("38 same mark", Check.ARGUMENT, () -> x.addSight(1, 1, 0, 0, 0));
        CHECK.dueThrow("38 end below", Check.ARGUMENT, () -> x.addSight(0, 1, -1, 0, 0));
        CHECK.dueThrow("38 end above", Check.ARGUMENT, () -> x.addSight(0, 1, 2, 0, 0));
        CHECK.dueThrow("38 reading below", Check.ARGUMENT, () -> x.addSight(0, 1, 0, -10000, 0));
        CHECK.dueThrow("38 reading above", Check.ARGUMENT, () -> x.addSight(0, 1, 0, 10000, 0));
        CHECK.dueThrow("38 heat below", Check.ARGUMENT, () -> x.addSight(0, 1, 0, 0, -41));
        CHECK.dueThrow("38 heat above", Check.ARGUMENT, () -> x.addSight(0, 1, 0, 0, 61));
        CHECK.due("38 nothing changes", before + 0, seen(x) + x.count(9));
        for (int i = 5; i < 40; i++) CHECK.due("38 up to 40", i, x.addSight(0, 1, 0, 0, 0));
        CHECK.dueThrow("38 full", Check.STATE, () -> x.addSight(0, 1, 0, 0, 0));
        CHECK.dueThrow("38 full and wrong", Check.ARGUMENT, () -> x.addSight(0, 1, 0, 0, 61));
        CHECK.dueThrow("38 full and no mark", Check.INDEX, () -> x.addSight(0, 9, 0, 0, 61));
        CHECK.due("38 forty", "40 10", x.count(2) + " " + x.count(9));
    }

    private static void promise39() {
        SpiritWall x = Check.wall(BASE);
        CHECK.due("39 was not", false, x.strike(1, true));
        CHECK.due("39 struck", "1 2 0 24 20 1", sight(x, 1));
        CHECK.due("39 was", true, x.strike(1, true));
        CHECK.due("39 was still", true, x.strike(1, false));
        CHECK.due("39 not any more", false, x.strike(1, false));
        CHECK.due("39 as before", "1 2 0 24 20 0", sight(x, 1));
        CHECK.due("39 all are changes", 4, x.count(9));
        CHECK.dueThrow("39 below", Check.INDEX, () -> x.strike(-1, true));
        CHECK.dueThrow("39 above", Check.INDEX, () -> x.strike(5, false));
        CHECK.due("39 no change when thrown", 4, x.count(9));
    }

    private static void promise40() {
        SpiritWall x = Check.wall(BASE);
        CHECK.due("40 back now", SpiritWall.BACK, x.swap(1, -9999));
        CHECK.due("40 sight", "1 2 1 -9999 20 0", sight(x, 1));
        CHECK.due("40 fore again", SpiritWall.FORE, x.swap(1, 9999));
        CHECK.due("40 sight again", "1 2 0 9999 20 0", sight(x, 1));
        x.strike(4, true);
        CHECK.due("40 a struck one", SpiritWall.FORE, x.swap(4, 1));
        CHECK.due("40 stays struck", "2 0 0 1 20 1", sight(x, 4));
        CHECK.dueThrow("40 below", Check.INDEX, () -> x.swap(-1, 10000));
        CHECK.dueThrow("40 above", Check.INDEX, () -> x.swap(5, 0));
        CHECK.dueThrow("40 reading below", Check.ARGUMENT, () -> x.swap(0, -10000));
        CHECK.dueThrow("40 reading above", Check.ARGUMENT, () -> x.swap(0, 10000));
        CHECK.due("40 nothing changes when thrown", "0 1 0 50 20 0 4", sight(x, 0) + " " + x.count(9));
    }

    private static void promise41() {
        SpiritWall x = Check.wall(BASE);
        CHECK.due("41 no bench before", false, x.fix(1, -99999));
        CHECK.due("41 bench", "1 -99999 2", x.mark(1, 1) + " " + x.height(1) + " " + x.count(1));
        CHECK.due("41 bench before", true, x.fix(1, 99999));
        CHECK.due("41 other height", "1 99999 2", x.mark(1, 1) + " " + x.height(1) + " " + x.count(1));
        x.level();
        CHECK.due("41 levelling goes by it", 99999, x.height(1));
        CHECK.due("41 and others do", 99999 + 20, x.height(2));
        CHECK.dueThrow("41 below", Check.INDEX, () -> x.fix(-1, 100000));
        CHECK.dueThrow("41 above", Check.INDEX, () -> x.fix(4, 0));
        CHECK.dueThrow("41 height below", Check.ARGUMENT, () -> x.fix(0, -100000));
        CHECK.dueThrow("41 height above", Check.ARGUMENT, () -> x.fix(0, 100000));
        CHECK.due("41 nothing changes when thrown", "100 3", x.height(0) + " " + x.count(9));
    }

    private static void promise42() {
        SpiritWall x = Check.wall(BASE);
        x.fix(3, 8);
        CHECK.due("42 benches left", 1, x.free(0));
        CHECK.due("42 keeps its height", "0 100", x.mark(0, 1) + " " + x.height(0));
        CHECK.dueThrow("42 no bench any more", Check.STATE, () -> x.free(0));
        CHECK.dueThrow("42 no bench", Check.STATE, () -> x.free(1));
        CHECK.due("42 none left", 0, x.free(3));
        CHECK.dueThrow("42 below", Check.INDEX, () -> x.free(-1));
        CHECK.dueThrow("42 above", Check.INDEX, () -> x.free(4));
        CHECK.due("42 no change when thrown", 3, x.count(9));
    }

    private static void promises45And46() {
        SpiritWall x = Check.wall(BASE);
        CHECK.due("45 found before", 4, x.tellError(-999));
        CHECK.due("45 told", "1 -999", x.setting(4) + " " + x.levelError());
        CHECK.due("45 told before", -999, x.tellError(999));
        CHECK.due("45 rises go by it", 24 - 999, x.sight(1, 9));
        CHECK.dueThrow("45 below", Check.ARGUMENT, () -> x.tellError(-1000));
        CHECK.dueThrow("45 above", Check.ARGUMENT, () -> x.tellError(1000));
        CHECK.due("45 no change when thrown", "999 2", x.levelError() + " " + x.count(9));
        CHECK.due("46 found", 4, x.findError());
        CHECK.due("46 from now on", "0 4", x.setting(4) + " " + x.levelError());
        CHECK.due("46 again", 4, x.findError());
        CHECK.due("46 are changes", 4, x.count(9));
        CHECK.due("45 0 is told too", "4 1", x.tellError(0) + " " + x.setting(4));
        CHECK.due("45 0", 0, x.levelError());
    }

    private static void promise47() {
        SpiritWall x = Check.wall(BASE);
        int[] usual = {1000, 0, 0, 10};
        int[] least = {1, 0, -99, 0};
        int[] greatest = {9999, 99, 99, 999};
        x.level();
        for (int what = 0; what < 4; what++) {
            int each = what;
            CHECK.due("47 before " + what, usual[what], x.set(what, least[what]));
            CHECK.due("47 least " + what, least[what], x.setting(what));
            CHECK.due("47 before again " + what, least[what], x.set(what, greatest[what]));
            CHECK.due("47 greatest " + what, greatest[what], x.setting(what));
            CHECK.dueThrow("47 below " + what, Check.ARGUMENT, () -> x.set(each, least[each] - 1));
            CHECK.dueThrow("47 above " + what, Check.ARGUMENT, () -> x.set(each, greatest[each] + 1));
            CHECK.due("47 stays " + what, greatest[what], x.setting(what));
        }
        CHECK.due("47 changes", 9, x.count(9));
        CHECK.due("47 heights stay", 171, x.height(2));
        CHECK.dueThrow("47 what below", Check.ARGUMENT, () -> x.set(-1, 0));
        CHECK.dueThrow("47 what above", Check.ARGUMENT, () -> x.set(4, 0));
    }

    private static void promise48() {
        SpiritWall x = Check.wall(BASE);
        CHECK.dueThrow("48 nothing", Check.STATE, x::undo);
        for (int i = 1; i <= 13; i++) x.set(3, i);
        CHECK.due("48 ten", 10, x.count(9));
        for (int i = 1; i <= 10; i++) {
            CHECK.due("48 left", 10 - i, x.undo());
            CHECK.due("48 limit", 13 - i, x.setting(3));
        }
        CHECK.dueThrow("48 no more", Check.STATE, x::undo);
        CHECK.due("48 stays", 3, x.setting(3));
        x.set(3, 50);
        x.set(3, 60);
        CHECK.due("48 undo is no change", 1, x.undo());
        CHECK.due("48 one undone", 50, x.setting(3));
        x.set(3, 70);
        CHECK.due("48 behind an undone one", 1, x.undo());
        CHECK.due("48 back to it", 50, x.setting(3));
        CHECK.due("48 to the first", "0 3", x.undo() + " " + x.setting(3));
    }

    private static void promise48EachChange() {
        SpiritWall x = Check.wall(BASE);
        String[] seen = new String[11];
        for (int i = 0; i <= 10; i++) {
            seen[i] = seen(x);
            if (i < 10) change(x, i);
        }
        for (int i = 9; i >= 0; i--) {
            CHECK.due("48 left of each", i, x.undo());
            CHECK.due("48 undone " + i, seen[i], seen(x));
        }
    }

    private static void change(SpiritWall x, int kind) {
        switch (kind) {
            case 0: x.level(); break;
            case 1: x.relax(1); break;
            case 2: x.fix(2, 5); break;
            case 3: x.free(2); break;
            case 4: x.addSight(3, 1, 1, 5, 6); break;
            case 5: x.strike(0, true); break;
            case 6: x.swap(2, 9); break;
            case 7: x.tellError(77); break;
            case 8: x.findError(); break;
            default: x.set(0, 5); break;
        }
    }

    private static void promise48What() {
        SpiritWall x = Check.wall(BASE);
        x.level();
        x.printMarks();
        Check.feed(x, "mark");
        x.undo();
        CHECK.due("48 the output stays", "a:100* b:150 c:171 d:?", Check.output(x));
        CHECK.due("48 the buffer stays", true, x.truncate(4));
        x.parse();
        CHECK.due("48 the error is set", "1 4", x.errorCode() + " " + x.errorOffset());
        x.level();
        x.saveState();
        CHECK.due("48 saving is no change", 1, x.count(9));
        x.undo();
        CHECK.due("48 the error stays", "1 4", x.errorCode() + " " + x.errorOffset());
        CHECK.due("48 undone", NO_HEIGHT, x.height(1));
        x.restoreState();
        CHECK.due("48 the saved state stays", 150, x.height(1));
    }

    private static void promises53And54() {
        SpiritWall x = Check.wall(BASE);
        CHECK.dueThrow("54 nothing saved", Check.STATE, x::restoreState);
        x.level();
        x.strike(0, true);
        String first = seen(x);
        CHECK.due("53 sights", 5, x.saveState());
        CHECK.due("53 changes stay", 2, x.count(9));
        for (int i = 0; i < 10; i++) change(x, i);
        x.printMarks();
        Check.feed(x, "mark a");
        CHECK.due("54 sights", 5, x.restoreState());
        CHECK.due("54 restored", first, seen(x));
        CHECK.due("54 nothing can be undone", 0, x.count(9));
        CHECK.dueThrow("54 undo", Check.STATE, x::undo);
        CHECK.due("54 the output stays", "a:100* b:151 c:5 d:?", Check.output(x));
        CHECK.due("54 the buffer stays", true, x.truncate(6));
        x.truncate(0);
        x.addSight(3, 1, 1, 5, 6);
        CHECK.due("54 stays saved", 5, x.restoreState());
        CHECK.due("54 restored again", first, seen(x));
        x.addSight(3, 1, 1, 5, 6);
        CHECK.due("53 in place of the earlier one", 6, x.saveState());
        x.strike(5, true);
        CHECK.due("54 the later one", 6, x.restoreState());
        CHECK.due("54 not struck out there", "3 1 1 5 6 0", sight(x, 5));
        Check.parse(x, "mark a");
        CHECK.due("54 kept behind a wrong text", 6, x.restoreState());
        CHECK.due("54 the error stays", "1 6", x.errorCode() + " " + x.errorOffset());
        Check.parse(x, "mark a 1;");
        CHECK.dueThrow("54 gone behind a right text", Check.STATE, x::restoreState);
        CHECK.due("53 no sights", 0, x.saveState());
    }
}
