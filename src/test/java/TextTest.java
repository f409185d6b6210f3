/** Promises 1 to 6 and 11: a new object, the input buffer, the setup text and find. */
public final class TextTest {
    private static final Check CHECK = new Check("TextTest");
    private static final int NONE = SpiritWall.NONE;

    public static void main(String[] args) {
        promise1();
        promise2();
        promise3();
        promise4();
        promise4Grammar();
        promise4Limits();
        promises5And6Code1();
        promises5And6Code2();
        promises5And6Codes3To5();
        promise11();
        CHECK.end();
    }

    private static void promise1() {
        SpiritWall x = new SpiritWall();
        for (int what = 0; what <= 10; what++) CHECK.due("1 count " + what, 0, x.count(what));
        int[] settings = {1000, 0, 0, 10, 0};
        for (int what = 0; what < 5; what++) CHECK.due("1 setting " + what, settings[what], x.setting(what));
        CHECK.due("1 errorCode", 0, x.errorCode());
        CHECK.due("1 errorOffset", NONE, x.errorOffset());
        CHECK.due("1 levelError", 0, x.levelError());
        CHECK.due("1 printMarks", 0, x.printMarks());
        CHECK.due("1 outputByte", NONE, x.outputByte(0));
        CHECK.dueThrow("1 undo", Check.STATE, x::undo);
        CHECK.dueThrow("1 restoreState", Check.STATE, x::restoreState);
        CHECK.dueThrow("1 height", Check.INDEX, () -> x.height(0));
        CHECK.dueThrow("1 printSight", Check.INDEX, () -> x.printSight(0));
        CHECK.dueThrow("1 loop", Check.INDEX, () -> x.loop(0, 0));
        CHECK.due("1 truncate", false, x.truncate(1));
        CHECK.due("1 feed", 20, x.feed(0, 0, 0, 0, 0));
        CHECK.due("1 constants", "-1 -10000000 0 1", SpiritWall.NONE + " " + SpiritWall.NO_HEIGHT + " " + SpiritWall.FORE
                + " " + SpiritWall.BACK);
    }

    private static void promise2() {
        SpiritWall x = new SpiritWall();
        CHECK.due("2 first", 20, x.feed(0x6d61726b, 0x20612031, 0x3b6d6172, 0x6b206220, 0x323b2020));
        CHECK.due("2 parse", 2, x.parse());
        CHECK.due("2 places", "1 2", x.mark(0, 0) + " " + x.mark(1, 0));
        for (int i = 0; i < 20; i++) {
            int[] words = {0x20202020, 0x20202020, 0x20202020, 0x20202020, 0x20202020};
            words[i / 4] |= 0x80 << 24 - i % 4 * 8;
            x.feed(words[0], words[1], words[2], words[3], words[4]);
            CHECK.due("2 byte " + i, NONE, x.parse());
            CHECK.due("2 offset of byte " + i, i, x.errorOffset());
        }
        for (int i = 1; i <= 45; i++) CHECK.due("2 length", 20 * i, x.feed(-1, -1, -1, -1, -1));
        CHECK.due("2 full", NONE, x.feed(0, 0, 0, 0, 0));
        CHECK.due("2 unchanged above", false, x.truncate(901));
        CHECK.due("2 unchanged", true, x.truncate(900));
        CHECK.due("2 to 881", true, x.truncate(881));
        CHECK.due("2 from 881", NONE, x.feed(0, 0, 0, 0, 0));
        CHECK.due("2 still 881", true, x.truncate(881));
        CHECK.due("2 to 880", true, x.truncate(880));
        CHECK.due("2 from 880", 900, x.feed(0, 0, 0, 0, 0));
    }

    private static void promise3() {
        SpiritWall x = new SpiritWall();
        CHECK.due("3 empty", true, x.truncate(0));
        x.feed(0x61202020, 0, 0, 0, 0);
        CHECK.due("3 below 0", false, x.truncate(-1));
        CHECK.due("3 least", false, x.truncate(Integer.MIN_VALUE));
        CHECK.due("3 above", false, x.truncate(21));
        CHECK.due("3 whole", true, x.truncate(20));
        CHECK.due("3 shorter", true, x.truncate(4));
        CHECK.due("3 not longer", false, x.truncate(5));
        CHECK.due("3 feed behind", 24, x.feed(0, 0, 0, 0, 0));
        x.truncate(0);
        Check.feed(x, "mark a 1;mark b 2");
        x.truncate(9);
        CHECK.due("3 first bytes stay", 1, x.parse());
    }

    private static void promise4() {
        SpiritWall x = Check.wall("mark a 1 at 5; mark b 2; sight a b fore 7; length 5; error 3; bend 1; warm 2; limit 3;");
        x.printMarks();
        x.saveState();
        x.level();
        Check.feed(x, "mark c 1; mark c");
        CHECK.due("4 wrong", NONE, x.parse());
        CHECK.due("4 the buffer is empty", 20, x.feed(0, 0, 0, 0, 0));
        CHECK.due("4 marks kept", 2, x.count(0));
        CHECK.due("4 setting kept", 5, x.setting(0));
        CHECK.due("4 heights kept", 12 - 3, x.height(1));
        CHECK.due("4 changes kept", 0, x.undo());
        CHECK.due("4 state kept", 1, x.restoreState());
        CHECK.due("4 output kept", "a:5* b:?", Check.output(x));
        x.level();
        x.truncate(0);
        Check.feed(x, "mark q 9;");
        CHECK.due("4 right", 1, x.parse());
        CHECK.due("4 output stays", "a:5* b:?", Check.output(x));
        CHECK.due("4 the buffer is empty again", 20, x.feed(0, 0, 0, 0, 0));
        CHECK.due("4 nothing can be undone", 0, x.count(9));
        CHECK.dueThrow("4 no state is saved", Check.STATE, x::restoreState);
        int[] settings = {1000, 0, 0, 10, 0};
        for (int what = 0; what < 5; what++) CHECK.due("4 setting " + what, settings[what], x.setting(what));
        CHECK.due("4 sights", 0, x.count(2));
        CHECK.due("4 benches", 0, x.count(1));
        CHECK.due("4 heights", 0, x.count(8));
        x.truncate(0);
        CHECK.due("4 the same kinds again", 1, Check.parse(x, "mark a 1; length 7; error 1; bend 1; warm 1; limit 1;"));
        CHECK.due("4 and again", 1, Check.parse(x, "mark a 1; length 8; error 1; bend 1; warm 1; limit 1;"));
        CHECK.due("4 later one", 8, x.setting(0));
        CHECK.due("4 empty text", 0, x.parse());
        CHECK.due("4 no marks", 0, x.count(0));
    }

    private static void promise4Grammar() {
        SpiritWall x = Check.wall(" \nlimit 999;warm-99;mark abcdef00005at-99999;mark b 99999at 99999\n;"
                + "sight abcdef b back - \n 9999 heat-40;sight b abcdef fore 9999heat 60;error - 999;bend 99;length 9999; \n");
        CHECK.due("4 marks", "2 2", x.count(0) + " " + x.count(1));
        CHECK.due("4 place", "5 99999", x.mark(0, 0) + " " + x.mark(1, 0));
        CHECK.due("4 heights", "-99999 99999", x.height(0) + " " + x.height(1));
        CHECK.due("4 first sight", "0 1 1 -9999 -40 0", sight(x, 0));
        CHECK.due("4 second sight", "1 0 0 9999 60 0", sight(x, 1));
        CHECK.due("4 settings", "9999 99 -99 999 1", x.setting(0) + " " + x.setting(1) + " " + x.setting(2) + " "
                + x.setting(3) + " " + x.setting(4));
        CHECK.due("4 error", -999, x.levelError());
        x = Check.wall("mark a 0; mark b 1; sight b a fore -0; error -0; warm -0; length 00001; bend 0; limit 0;");
        CHECK.due("4 usual heat", "1 0 0 0 20 0", sight(x, 0));
        CHECK.due("4 zero settings", "1 0 0 0 1", x.setting(0) + " " + x.setting(1) + " " + x.setting(2) + " "
                + x.setting(3) + " " + x.setting(4));
    }

    private static String sight(SpiritWall x, int number) {
        StringBuilder text = new StringBuilder();
        for (int what = 0; what < 6; what++) text.append(what > 0 ? " " : "").append(x.sight(number, what));
        return text.toString();
    }

    private static void promise4Limits() {
        StringBuilder text = new StringBuilder();
        for (int i = 0; i < 12; i++) text.append("mark ").append((char) ('a' + i)).append(i).append(';');
        SpiritWall x = new SpiritWall();
        CHECK.due("4 twelve marks", 12, Check.parse(x, text.toString()));
        fault(text + "mark m 99;", 5, text.length());
        for (int i = 0; i < 40; i++) text.append("sight a b fore 1;");
        CHECK.due("4 forty sights", 12, Check.parse(x, text.toString()));
        CHECK.due("4 forty sights stand", 40, x.count(2));
        fault(text + "sight a a fore 1;", 5, text.length());
        fault(text + "sight", 5, text.length());
    }

    private static void promises5And6Code1() {
        fault("x", 1, 0);
        fault(" mark", 1, 5);
        fault("mark \n ", 1, 7);
        fault("mark at 5;", 1, 5);
        fault("mark length 5;", 1, 5);
        fault("mark abcdefg 5;", 1, 5);
        fault("mark 5;", 1, 5);
        fault("mark A 5;", 1, 5);
        fault("mark a;", 1, 6);
        fault("mark a -5;", 1, 7);
        fault("mark a 000001;", 1, 7);
        fault("mark a 5 at;", 1, 11);
        fault("mark a 5 at -;", 1, 13);
        fault("mark a 5 at --5;", 1, 13);
        fault("mark a 5 at 100000;", 1, 12);
        fault("mark a 5 6;", 1, 9);
        fault("mark a 5", 1, 8);
        fault("mark a 5;;", 1, 9);
        fault(";", 1, 0);
        fault("fore;", 1, 0);
        fault("marks a 5;", 1, 0);
        fault("mar k a 5;", 1, 0);
        fault("mark a\t5;", 1, 6);
        fault("mark a 5\u00e9;", 1, 8);
        String marks = "mark a 1;mark b 2;";
        fault(marks + "sight fore b fore 1;", 1, 24);
        fault(marks + "sight a;", 1, 25);
        fault(marks + "sight a back fore 1;", 1, 26);
        fault(marks + "sight a b 5;", 1, 28);
        fault(marks + "sight a b heat 5;", 1, 28);
        fault(marks + "sight a b fore;", 1, 32);
        fault(marks + "sight a b fore 1 heat;", 1, 39);
        fault(marks + "sight a b fore 1 heat 1 heat 1;", 1, 42);
        fault(marks + "sight a b fore 1 at 5;", 1, 35);
        fault("length -5;", 1, 7);
        fault("bend -0;", 1, 5);
        fault("limit - 1;", 1, 6);
        fault("error;", 1, 5);
        fault("warm a;", 1, 5);
        fault("length 1", 1, 8);
        fault("length 123456;", 1, 7);
    }

    private static void promises5And6Code2() {
        fault("length 0;", 2, 7);
        fault("length 10000;", 2, 7);
        fault("error 1000;", 2, 6);
        fault("error -1000;", 2, 7);
        fault("error - 1000 x", 2, 8);
        fault("bend 100;", 2, 5);
        fault("warm 100;", 2, 5);
        fault("warm -100;", 2, 6);
        fault("limit 1000;", 2, 6);
        String marks = "mark a 1;mark b 2;";
        fault(marks + "sight a b fore 10000;", 2, 33);
        fault(marks + "sight a b fore -10000;", 2, 34);
        fault(marks + "sight a b fore 9 heat 61;", 2, 40);
        fault(marks + "sight a b back 9 heat -41;", 2, 41);
    }

    private static void promises5And6Codes3To5() {
        fault("mark a 1;mark a 2;", 3, 14);
        fault("mark a 1;mark b 00001;", 3, 16);
        fault("mark a 1;mark b 1 at x", 3, 16);
        fault("length 1;length 1;", 3, 9);
        fault("error 1;error", 3, 8);
        fault("bend 1;mark a 1;bend 1;", 3, 16);
        fault("warm 1;limit 1;warm 1;", 3, 15);
        fault("limit 1;limit 1;", 3, 8);
        String marks = "mark a 1;mark b 2;";
        fault(marks + "sight a a fore 1;", 3, 26);
        fault(marks + "sight c a fore 1;", 4, 24);
        fault(marks + "sight c c fore 1;", 4, 24);
        fault(marks + "sight a c fore 1;mark c 3;", 4, 26);
        fault("sight a b fore 1;" + marks, 4, 6);
        SpiritWall x = new SpiritWall();
        Check.parse(x, "mark");
        Check.parse(x, "mark a 1;");
        CHECK.due("5 latest right", 0, x.errorCode());
        CHECK.due("6 latest right", NONE, x.errorOffset());
    }

    private static void fault(String text, int code, int offset) {
        SpiritWall x = new SpiritWall();
        CHECK.due("4 parse of " + text, NONE, Check.parse(x, text));
        CHECK.due("5 code of " + text, code, x.errorCode());
        CHECK.due("6 offset of " + text, offset, x.errorOffset());
        x.saveState();
        x.printMarks();
        CHECK.due("5 code stays of " + text, code, x.errorCode());
    }

    private static void promise11() {
        SpiritWall x = Check.wall("mark a 1;mark az 2;mark abcdef 3;mark b 4;");
        String[] names = {"a", "az", "abcdef", "b"};
        for (int i = 0; i < names.length; i++) {
            Check.feed(x, names[i]);
            CHECK.due("11 " + names[i], i, x.find());
            CHECK.due("11 the buffer is empty behind " + names[i], false, x.truncate(1));
        }
        for (String text : new String[] {"", "c", "aa", "abcde", "abcdefg", "a ", " a", "mark", "A", "a\u0000", "abcdefaz", "dabcdef",
            "`a", "{", "\u00e1"}) {
            Check.feed(x, text);
            CHECK.due("11 none: " + text, NONE, x.find());
            CHECK.due("11 the buffer is empty behind none", 20, x.feed(0, 0, 0, 0, 0));
            x.truncate(0);
        }
    }
}
