/** The boundaries of terms 1 and 5 and of promises 1 to 6 and 11: the buffer, the setup text, names. */
public final class TextBoundaryTest {
    private static final Check CHECK = new Check("TextBoundaryTest");
    private static final int NONE = SpiritWall.NONE;
    private static final String[] QUOTED = {"mark", "at", "sight", "fore", "back", "heat", "length", "error", "bend", "warm",
        "limit"};
    private static final String PAIR = "mark a 1;mark b 2;";

    public static void main(String[] args) throws IllegalAccessException {
        Boundary.runAll(CHECK, TextBoundaryTest.class);
    }

    private static void right(String text, int marks) {
        SpiritWall x = new SpiritWall();
        CHECK.due("parse of <" + text + ">", marks, Check.parse(x, text));
        CHECK.due("error of <" + text + ">", "0 -1", x.errorCode() + " " + x.errorOffset());
    }

    private static void fault(String text, int code, int offset) {
        SpiritWall x = new SpiritWall();
        CHECK.due("parse of <" + text + ">", NONE, Check.parse(x, text));
        CHECK.due("error of <" + text + ">", code + " " + offset, x.errorCode() + " " + x.errorOffset());
    }

    private static String blanks(int number) {
        return " ".repeat(number);
    }

    private static String fortySights() {
        return "sight a b fore 1;".repeat(40);
    }

    // ---- what the buffer holds

    @Says(at = "Promise 1", text = "Creates it as if the empty text was parsed")
    static void promise1AsTheEmptyText() {
        SpiritWall parsed = Check.wall("mark a 5 at 6;length 5;error 4;bend 3;warm 2;limit 1;");
        Check.parse(parsed, "");
        CHECK.due("all", Boundary.all(parsed), Boundary.all(new SpiritWall()));
        SpiritWall x = new SpiritWall();
        StringBuilder counts = new StringBuilder();
        for (int what = 0; what <= 10; what++) counts.append(x.count(what)).append(' ');
        CHECK.due("counts", "0 0 0 0 0 0 0 0 0 0 0 ", counts.toString());
        CHECK.due("settings", "1000 0 0 10 0", x.setting(0) + " " + x.setting(1) + " " + x.setting(2) + " " + x.setting(3)
                + " " + x.setting(4));
    }

    @Says(at = "Promise 1", text = "with an empty input buffer")
    static void promise1EmptyBuffer() {
        SpiritWall x = new SpiritWall();
        CHECK.due("one byte", false, x.truncate(1));
        CHECK.due("no byte", true, x.truncate(0));
        CHECK.due("first feed", 20, x.feed(0, 0, 0, 0, 0));
        CHECK.due("parse", 0, new SpiritWall().parse());
        CHECK.due("find", NONE, new SpiritWall().find());
    }

    @Says(at = "Promise 2", text = "the four bytes of each parameter, the most significant byte first")
    static void promise2EachByte() {
        for (int i = 0; i < 20; i++) {
            String text = blanks(i) + "x" + blanks(19 - i);
            fault(text, 1, i);
            int[] words = {0x20202020, 0x20202020, 0x20202020, 0x20202020, 0x20202020};
            words[i / 4] ^= (0x20 ^ 0xff) << 24 - i % 4 * 8;
            SpiritWall x = new SpiritWall();
            x.feed(words[0], words[1], words[2], words[3], words[4]);
            CHECK.due("byte 255 at " + i, "-1 1 " + i, x.parse() + " " + x.errorCode() + " " + x.errorOffset());
        }
    }

    @Says(at = "Promise 2", text = "the most significant byte first")
    static void promise2GreatestAndLeastInt() {
        SpiritWall x = new SpiritWall();
        CHECK.due("length", 20, x.feed(0x61626364, Boundary.LEAST, Boundary.GREATEST, -1, 0));
        CHECK.due("length again", "-1 -1", x.parse() + " " + Boundary.answer(x, y -> y.find()));
        x = Check.wall("mark abcd 1;");
        x.feed(0x61626364, Boundary.LEAST, Boundary.GREATEST, -1, 0);
        x.truncate(4);
        CHECK.due("the first four bytes", 0, x.find());
        x.feed(0x61626364, Boundary.LEAST, Boundary.GREATEST, -1, 0);
        x.truncate(5);
        CHECK.due("the fifth is byte 128", NONE, x.find());
    }

    @Says(at = "Promise 2", text = "Returns the new length of the buffer")
    static void promise2NewLength() {
        SpiritWall x = new SpiritWall();
        for (int i = 1; i <= 45; i++) CHECK.due("feed " + i, 20 * i, x.feed(-1, -1, -1, -1, -1));
        x.truncate(1);
        CHECK.due("behind one byte", 21, x.feed(0, 0, 0, 0, 0));
    }

    @Says(at = "Promise 2", text = "NONE, with no change, if it would exceed 900")
    static void promise2WouldExceed() {
        for (int length : new int[] {900, 899, 890, 881}) {
            SpiritWall x = filled(900);
            x.truncate(length);
            CHECK.due("feed at " + length, NONE, x.feed(0, 0, 0, 0, 0));
            CHECK.due("as long at " + length, "true false", x.truncate(length) + " " + x.truncate(length + 1));
            CHECK.due("the same text at " + length, 1, x.parse());
        }
        SpiritWall x = filled(900);
        x.truncate(880);
        CHECK.due("feed at 880", 900, x.feed(0x20202020, 0x20202020, 0x20202020, 0x20202020, 0x20202020));
        CHECK.due("the same text at 880", 1, x.parse());
    }

    /** A wall with a mark and then blanks in the buffer. */
    private static SpiritWall filled(int length) {
        SpiritWall x = new SpiritWall();
        Check.feed(x, "mark a 5;" + blanks(length - 9));
        return x;
    }

    @Says(at = "Promise 3", text = "false, with no change, if length is negative or greater than the length of the buffer")
    static void promise3Refused() {
        for (int filled : new int[] {0, 1, 20, 899, 900}) {
            for (int length : new int[] {-1, Boundary.LEAST, filled + 1, Boundary.GREATEST}) {
                SpiritWall x = new SpiritWall();
                Check.feed(x, blanks(filled));
                CHECK.due("truncate " + length + " of " + filled, false, x.truncate(length));
                CHECK.due("as long behind " + length + " of " + filled, true, x.truncate(filled));
                CHECK.due("no longer behind " + length + " of " + filled, false, x.truncate(filled + 1));
            }
        }
        Boundary.unchanged(CHECK, "-1", false, Boundary::busy, x -> x.truncate(-1));
        Boundary.unchanged(CHECK, "least", false, Boundary::busy, x -> x.truncate(Boundary.LEAST));
        Boundary.unchanged(CHECK, "one too many", false, Boundary::busy, x -> x.truncate(15));
        Boundary.unchanged(CHECK, "greatest", false, Boundary::busy, x -> x.truncate(Boundary.GREATEST));
    }

    @Says(at = "Promise 3", text = "Returns true")
    static void promise3Done() {
        SpiritWall x = new SpiritWall();
        CHECK.due("0 of 0", true, x.truncate(0));
        x = filled(900);
        CHECK.due("900 of 900", true, x.truncate(900));
        CHECK.due("899 of 900", true, x.truncate(899));
        CHECK.due("900 of 899", false, x.truncate(900));
        CHECK.due("0 of 899", true, x.truncate(0));
        CHECK.due("1 of 0", false, x.truncate(1));
        CHECK.due("nothing left", 0, x.parse());
        Boundary.unchanged(CHECK, "the whole", true, Boundary::busy, y -> y.truncate(14));
    }

    @Says(at = "Promise 3", text = "Shortens the input buffer to its first bytes")
    static void promise3FirstBytes() {
        SpiritWall x = new SpiritWall();
        Check.feed(x, "mark a 5;mark b 6;");
        x.truncate(9);
        CHECK.due("one mark", 1, x.parse());
        Check.feed(x, "mark a 5;mark b 6;");
        x.truncate(8);
        CHECK.due("no semicolon", "-1 1 8", x.parse() + " " + x.errorCode() + " " + x.errorOffset());
    }

    @Says(at = "Promise 3", text = "Shortens the input buffer to its first bytes")
    static void promise3BytesBehindDoNotCount() {
        cut("mark a 5 \n  ", 8, 1, 8);
        cut("mark a 5;  ", 7, 1, 7);
        cut("mark a 5;", 3, 1, 0);
        cut("limit 1000;", 9, 1, 9);
        cut("limit 100000;", 10, 2, 6);
        cut("mark abcdefg", 11, 1, 11);
        cut("mark a 5 at -5;", 13, 1, 13);
        SpiritWall x = Check.wall("mark a 1;mark ab 2;");
        Check.feed(x, "ab");
        x.truncate(1);
        CHECK.due("find", 0, x.find());
    }

    private static void cut(String text, int length, int code, int offset) {
        SpiritWall x = new SpiritWall();
        Check.feed(x, text);
        x.truncate(length);
        CHECK.due("<" + text + "> cut to " + length, "-1 " + code + " " + offset, x.parse() + " " + x.errorCode() + " " + x.errorOffset());
    }

    // ---- parse

    @Says(at = "Promise 4", text = "Parses the input buffer and empties it, whether it succeeds or not")
    static void promise4Empties() {
        for (String text : new String[] {"", "mark a 5;", "mark a 5", "x", blanks(900)}) {
            SpiritWall x = new SpiritWall();
            Check.parse(x, text);
            CHECK.due("one byte behind <" + text + ">", false, x.truncate(1));
            CHECK.due("feed behind <" + text + ">", 20, x.feed(0, 0, 0, 0, 0));
        }
    }

    @Says(at = "Promise 4", text = "On success everything but the output is as at first, with the setup of the text")
    static void promise4AsAtFirst() {
        for (String text : new String[] {"", " ", "mark a 9;", "mark q 9 at 5;mark r 8;limit 3;sight r q back 5;"}) {
            SpiritWall x = Boundary.busy();
            x.truncate(0);
            Check.parse(x, text);
            CHECK.due("error of <" + text + ">", "0 -1", x.errorCode() + " " + x.errorOffset());
            CHECK.due("output of <" + text + ">", Check.output(Boundary.busy()), Check.output(x));
            CHECK.due("all of <" + text + ">", Boundary.held(Check.wall(text)), Boundary.held(x));
        }
    }

    @Says(at = "Promise 4", text = "nothing can be undone, and no state is saved")
    static void promise4NothingToUndo() {
        SpiritWall x = Boundary.busy();
        CHECK.due("right text", 1, x.parse());
        CHECK.due("changes", 0, x.count(9));
        CHECK.due("undo", Check.STATE, Boundary.answer(x, y -> y.undo()));
        CHECK.due("restore", Check.STATE, Boundary.answer(x, y -> y.restoreState()));
    }

    @Says(at = "Promise 4", text = "Returns the number of marks")
    static void promise4NumberOfMarks() {
        right("", 0);
        right("length 5;", 0);
        right("mark a 5;", 1);
        right(Boundary.marks(11, 1), 11);
        right(Boundary.marks(12, 1), 12);
    }

    @Says(at = "Promise 4", text = "NONE if the text has an error, in which case everything but the buffer and the error is kept")
    static void promise4Kept() {
        String much = "length 1;error 1;bend 1;warm 1;limit 7;mark c 1 at 2;mark d 3;mark e 4;sight c d fore 1;sight d c back 2;";
        for (String text : new String[] {"x", "mark a", "mark a 1", much + "limit 8;", much + "mark c 9;", much + ";",
            much + "sight c f fore 1;", much + "sight c c fore 1;", much + "sight c d fore 10000;",
            Boundary.marks(12, 1) + fortySights() + "mark"}) {
            SpiritWall x = Boundary.busy();
            SpiritWall same = Boundary.busy();
            x.truncate(0);
            same.truncate(0);
            CHECK.due("<" + text + ">", NONE, Check.parse(x, text));
            CHECK.due("output of <" + text + ">", Check.output(same), Check.output(x));
            CHECK.due("all of <" + text + ">", Boundary.held(same), Boundary.held(x));
        }
    }

    @Says(at = "Promise 5", text = "0 if that text had no error or there was no such call")
    static void promise5NoError() {
        SpiritWall x = new SpiritWall();
        CHECK.due("no call", 0, x.errorCode());
        x.find();
        CHECK.due("find is no such call", 0, x.errorCode());
        x.parse();
        CHECK.due("empty text", 0, x.errorCode());
        Check.parse(x, "limit 1000;");
        CHECK.due("fault", 2, x.errorCode());
        x.find();
        x.truncate(0);
        CHECK.due("still the latest call of parse", 2, x.errorCode());
        x.parse();
        CHECK.due("right behind a fault", 0, x.errorCode());
    }

    @Says(at = "Promise 5", text = "Returns 1 to 5")
    static void promise5EachCode() {
        fault("x", 1, 0);
        fault("bend 100;", 2, 5);
        fault("mark a 1;mark a 2;", 3, 14);
        fault("sight a b fore 1;", 4, 6);
        fault(Boundary.marks(12, 1) + "mark m 12;", 5, Boundary.marks(12, 1).length());
    }

    @Says(at = "Promise 6", text = "NONE if that text had no error or there was no such call")
    static void promise6NoError() {
        SpiritWall x = new SpiritWall();
        CHECK.due("no call", NONE, x.errorOffset());
        x.parse();
        CHECK.due("empty text", NONE, x.errorOffset());
        Check.parse(x, "  limit 1000;");
        CHECK.due("fault", 8, x.errorOffset());
        x.find();
        CHECK.due("still the latest call of parse", 8, x.errorOffset());
        Check.parse(x, "x");
        CHECK.due("offset 0", 0, x.errorOffset());
        x.parse();
        CHECK.due("right behind a fault", NONE, x.errorOffset());
    }

    @Says(at = "Promise 6", text = "Returns the offset")
    static void promise6FirstAndLastByte() {
        fault("x" + blanks(899), 1, 0);
        fault(blanks(899) + "x", 1, 899);
        fault("mark a 5" + blanks(892), 1, 900);
        fault("mark a 5" + blanks(891), 1, 899);
    }

    @Says(at = "Promise 11", text = "the buffer is empty afterwards")
    static void promise11Empties() {
        for (String text : new String[] {"", "a", "abcdef", "nobody", blanks(900), "a".repeat(900)}) {
            SpiritWall x = Check.wall("mark a 1;mark abcdef 2;");
            Check.feed(x, text);
            x.find();
            CHECK.due("behind <" + text + ">", "false 20", x.truncate(1) + " " + x.feed(0, 0, 0, 0, 0));
        }
    }

    @Says(at = "Promise 11", text = "its name, which is the whole content of the input buffer (blanks count)")
    static void promise11BlanksCount() {
        for (String text : new String[] {" a", "a ", "\na", "a\n", "a a", "a;", "a\u0000", " ", "\n", "a" + blanks(899)}) {
            SpiritWall x = Check.wall("mark a 1;mark abcdef 2;");
            Check.feed(x, text);
            CHECK.due("<" + text + ">", NONE, x.find());
        }
    }

    @Says(at = "Promise 11", text = "NONE if there is none with this name")
    static void promise11None() {
        SpiritWall x = Check.wall("mark a 1;mark abcdef 2;mark z 3;mark zzzzzz 4;mark aa 5;");
        for (String text : new String[] {"", "b", "y", "ab", "zz", "abcde", "abcdefg", "aabcdef", "gabcdef", "zabcdef", "zzzzzzz", "mark",
            "at", "A", "`", "{", "\u00e1", "\u00fa", "1", "-", "a".repeat(900), "dabcdef", "habcdef", "pzzzzzz", "d".repeat(894) + "abcdef", "`a",
            "a`", "``a", "`abcdef", "\u0081", "@a", "\u0000a", "\u0080a"}) {
            Check.feed(x, text);
            CHECK.due("<" + text + ">", NONE, x.find());
        }
        Check.feed(x, "mark q");
        x.parse();
        Check.feed(x, "q");
        CHECK.due("a mark of a wrong text", NONE, x.find());
        x.parse();
        Check.feed(x, "a");
        CHECK.due("no marks", NONE, x.find());
    }

    @Says(at = "Promise 11", text = "Returns number of the mark")
    static void promise11FirstAndLast() {
        SpiritWall x = Check.wall("mark z 1;mark zzzzzz 4;mark a 2;mark aaaaaa 3;mark aa 5;mark az 6;mark b 7;mark lengt 8;"
                + "mark c 9;mark d 10;mark e 11;mark xyz 12;");
        String[] names = {"z", "zzzzzz", "a", "aaaaaa", "aa", "az", "b", "lengt", "c", "d", "e", "xyz"};
        for (int i = 0; i < 12; i++) {
            Check.feed(x, names[i]);
            CHECK.due(names[i], i, x.find());
        }
    }

    // ---- terms 1 and 5

    @Says(at = "Term 1", text = "There are at most 12 marks, numbered from 0 in the order in which they came")
    static void term1TwelveMarks() {
        StringBuilder text = new StringBuilder();
        for (int m = 0; m < 12; m++) text.append("mark ").append(Boundary.name(11 - m)).append(' ').append(500 - m).append(';');
        SpiritWall x = Check.wall(text.toString());
        CHECK.due("marks", 12, x.count(0));
        for (int m = 0; m < 12; m++) {
            CHECK.due("place of " + m, 500 - m, x.mark(m, 0));
            Check.feed(x, Boundary.name(11 - m));
            CHECK.due("name of " + m, m, x.find());
        }
        CHECK.due("no thirteenth", Check.INDEX, Boundary.answer(x, y -> y.mark(12, 0)));
        fault(text + "mark m 1;", 5, text.length());
    }

    @Says(at = "Term 1", text = "There are at most 40 sights, numbered likewise")
    static void term1FortySights() {
        StringBuilder text = new StringBuilder(PAIR);
        for (int s = 0; s < 40; s++) text.append("sight a b fore ").append(40 - s).append(';');
        SpiritWall x = Check.wall(text.toString());
        CHECK.due("sights", 40, x.count(2));
        for (int s = 0; s < 40; s++) CHECK.due("reading of " + s, 40 - s, x.sight(s, 3));
        CHECK.due("no 41st", Check.INDEX, Boundary.answer(x, y -> y.sight(40, 0)));
        fault(text + "sight a b fore 1;", 5, text.length());
    }

    @Says(at = "Term 1", text = "A mark has a place along the wall (0 to 99999 mm)")
    static void term1Places() {
        SpiritWall x = Check.wall("mark a 0;mark b 99999;mark c 00001;");
        CHECK.due("places", "0 99999 1", x.mark(0, 0) + " " + x.mark(1, 0) + " " + x.mark(2, 0));
        fault("mark a 100000;", 1, 7);
        fault("mark a -1;", 1, 7);
    }

    @Says(at = "Term 1", text = "all marks have different places")
    static void term1DifferentPlaces() {
        fault("mark a 0;mark b 0;", 3, 16);
        fault("mark a 99999;mark b 99999;", 3, 20);
        fault("mark a 7;mark b 8;mark c 00007;", 3, 25);
        fault(Boundary.marks(11, 1) + "mark l 10;", 3, Boundary.marks(11, 1).length() + 7);
        right("mark a 0;mark b 1;", 2);
    }

    @Says(at = "Term 1", text = "A bench is a mark whose height is told")
    static void term1BenchAtNought() {
        SpiritWall x = Check.wall("mark a 0 at 0;mark b 1 at -0;mark c 2;");
        CHECK.due("benches", "2 1 1 0", x.count(1) + " " + x.mark(0, 1) + " " + x.mark(1, 1) + " " + x.mark(2, 1));
        CHECK.due("heights", "0 0", x.height(0) + " " + x.height(1));
    }

    @Says(at = "Term 5", text = "The input buffer holds at most 900 bytes")
    static void term5NineHundredBytes() {
        right("mark a 5" + blanks(891) + ";", 1);
        fault("mark a 5" + blanks(890) + ";" + "-", 1, 899);
        String setup = Boundary.marks(12, 1) + fortySights();
        right(setup + blanks(900 - setup.length()), 12);
        right(blanks(900 - setup.length()) + setup, 12);
        SpiritWall x = new SpiritWall();
        Check.feed(x, "mark a 5" + blanks(892));
        x.feed(0x3b202020, 0x20202020, 0x20202020, 0x20202020, 0x20202020);
        CHECK.due("the semicolon had no room", "-1 1 900", x.parse() + " " + x.errorCode() + " " + x.errorOffset());
    }

    @Says(at = "Term 5", text = "text = { statement \";\" }")
    static void term5NoStatement() {
        right("", 0);
        right(" ", 0);
        right("\n", 0);
        right(blanks(900), 0);
        fault(";", 1, 0);
        fault("mark a 5;;", 1, 9);
        fault(";mark a 5;", 1, 0);
        fault("mark a 5", 1, 8);
        fault("mark a 5;limit 5", 1, 16);
    }

    @Says(at = "Term 5", text = "\"mark\" name N [ \"at\" S ]")
    static void term5MarkStatement() {
        right("mark a 5;", 1);
        right("mark a5at6;", 1);
        right("mark a 5 at -6;", 1);
        fault("mark a at 5;", 1, 7);
        fault("mark a 5 6;", 1, 9);
        fault("mark a 5 -6;", 1, 9);
        fault("mark a 5 at 6 at 7;", 1, 14);
        fault("mark a 5 at;", 1, 11);
        fault("mark a 5 at b;", 1, 12);
        fault("mark a 5 heat 6;", 1, 9);
    }

    @Says(at = "Term 5", text = "\"sight\" name name ( \"fore\" | \"back\" ) S [ \"heat\" S ]")
    static void term5SightStatement() {
        right(PAIR + "sight a b fore5heat6;", 2);
        right(PAIR + "sight b a back-5heat-6;", 2);
        fault(PAIR + "sight a fore 5;", 1, 26);
        fault(PAIR + "sight a b 5;", 1, 28);
        fault(PAIR + "sight a b fore back 5;", 1, 33);
        fault(PAIR + "sight a b fore heat 6;", 1, 33);
        fault(PAIR + "sight a b fore 5 6;", 1, 35);
        fault(PAIR + "sight a b fore 5 at 6;", 1, 35);
        fault(PAIR + "sight a b fore 5 heat 6 heat 7;", 1, 42);
        fault(PAIR + "sight a b a 5;", 1, 28);
    }

    private static void range(String ahead, int least, int greatest, boolean signed) {
        right(ahead + greatest + ";", ahead.contains("mark") ? 2 : 0);
        right(ahead + least + ";", ahead.contains("mark") ? 2 : 0);
        fault(ahead + (greatest + 1) + ";", 2, ahead.length());
        fault(ahead + (least - 1) + ";", least - 1 < 0 && !signed ? 1 : 2, ahead.length() + (signed ? 1 : 0));
        fault(ahead + "99999;", 2, ahead.length());
        fault(ahead + "-99999;", signed ? 2 : 1, ahead.length() + (signed ? 1 : 0));
        fault(ahead + "100000;", 1, ahead.length());
        fault(ahead + "4294967297;", 1, ahead.length());
        right(ahead + "00001;", ahead.contains("mark") ? 2 : 0);
        fault(ahead + "000001;", 1, ahead.length());
    }

    @Says(at = "Term 5", text = "LENGTH is 1 to 9999 (1000 without the statement)")
    static void term5Length() {
        range("length ", 1, 9999, false);
        fault("length -1;", 1, 7);
        fault("length 00000;", 2, 7);
        CHECK.due("told", "1 9999", Check.wall("length 1;").setting(0) + " " + Check.wall("length 9999;").setting(0));
        CHECK.due("without", 1000, Check.wall("limit 1;").setting(0));
    }

    @Says(at = "Term 5", text = "the error -999 to 999 (none without it)")
    static void term5Error() {
        range("error ", -999, 999, true);
        CHECK.due("told", "-999 999", Check.wall("error -999;").levelError() + " " + Check.wall("error 999;").levelError());
        CHECK.due("0 is told", "0 1", Check.wall("error -0;").levelError() + " " + Check.wall("error 0;").setting(4));
        CHECK.due("without", 0, Check.wall("limit 1;").setting(4));
    }

    @Says(at = "Term 5", text = "BEND 0 to 99 (0)")
    static void term5Bend() {
        range("bend ", 0, 99, false);
        CHECK.due("told", "99 0", Check.wall("bend 99;").setting(1) + " " + Check.wall("bend 0;").setting(1));
        CHECK.due("without", 0, Check.wall("limit 1;").setting(1));
    }

    @Says(at = "Term 5", text = "WARM -99 to 99 (0)")
    static void term5Warm() {
        range("warm ", -99, 99, true);
        CHECK.due("told", "99 -99", Check.wall("warm 99;").setting(2) + " " + Check.wall("warm -99;").setting(2));
        CHECK.due("without", 0, Check.wall("limit 1;").setting(2));
    }

    @Says(at = "Term 5", text = "LIMIT 0 to 999 (10)")
    static void term5Limit() {
        range("limit ", 0, 999, false);
        CHECK.due("told", "999 0", Check.wall("limit 999;").setting(3) + " " + Check.wall("limit 0;").setting(3));
        CHECK.due("without", 10, Check.wall("bend 1;").setting(3));
    }

    @Says(at = "Term 5", text = "of a bench, its height (-99999 to 99999)")
    static void term5Height() {
        CHECK.due("greatest", 99999, Check.wall("mark a 5 at 99999;").height(0));
        CHECK.due("least", -99999, Check.wall("mark a 5 at -99999;").height(0));
        fault("mark a 5 at 100000;", 1, 12);
        fault("mark a 5 at -100000;", 1, 13);
        fault("mark a 5 at 000000;", 1, 12);
    }

    @Says(at = "Term 1", text = "a reading (-9999 to 9999)")
    static void term1Reading() {
        range(PAIR + "sight a b back ", -9999, 9999, true);
        SpiritWall x = Check.wall(PAIR + "sight a b fore 9999;sight b a back -9999;");
        CHECK.due("readings", "9999 -9999", x.sight(0, 3) + " " + x.sight(1, 3));
    }

    @Says(at = "Term 1", text = "a heat (-40 to 60)")
    static void term1Heat() {
        range(PAIR + "sight a b back 5 heat ", -40, 60, true);
        SpiritWall x = Check.wall(PAIR + "sight a b fore 1 heat -40;sight b a back 2 heat 60;");
        CHECK.due("heats", "-40 60", x.sight(0, 4) + " " + x.sight(1, 4));
    }

    @Says(at = "Term 5", text = "\"sight\" tells a sight that is not struck out, with the heat 20 if none is told")
    static void term5UsualHeat() {
        SpiritWall x = Check.wall(PAIR + "sight a b fore 1;sight b a back 2 heat 0;");
        CHECK.due("without heat", "0 1 0 1 20 0", Boundary.sight(x, 0));
        CHECK.due("the heat 0", "1 0 1 2 0 0", Boundary.sight(x, 1));
        x.strike(0, true);
        x.strike(1, true);
        Check.parse(x, PAIR + "sight a b fore 1;sight b a back 2;");
        CHECK.due("not struck out", "0 1 0 1 20 0 1 0 1 2 20 0", Boundary.sight(x, 0) + " " + Boundary.sight(x, 1));
    }

    @Says(at = "Term 5", text = "A name is a word of 1 to 6 letters that is not quoted in the grammar")
    static void term5Names() {
        right("mark a 5;mark z 6;mark abcdef 7;mark zzzzzz 8;", 4);
        fault("mark abcdefg 5;", 1, 5);
        fault("mark " + "a".repeat(800) + " 5;", 1, 5);
        fault("mark 5 5;", 1, 5);
        fault(PAIR + "sight abcdefg b fore 1;", 1, 24);
        fault(PAIR + "sight a abcdefg fore 1;", 1, 26);
        for (String word : QUOTED) {
            fault("mark " + word + " 5;", 1, 5);
            fault(PAIR + "sight " + word + " b fore 1;", 1, 24);
            fault(PAIR + "sight a " + word + " fore 1;", 1, 26);
            if (word.length() < 6) right("mark " + word + "s 5;mark x" + word + " 6;", 2);
            right("mark " + word.substring(1) + " 5;", 1);
        }
    }

    @Says(at = "Term 5", text = "A word is a maximal run of the letters a to z")
    static void term5Words() {
        fault("marka 5;", 1, 0);
        fault("mar k a 5;", 1, 0);
        fault("ark a 5;", 1, 0);
        fault("zzzzzzzmark a 5;", 1, 0);
        fault("MARK a 5;", 1, 0);
        fault("mark a 5 atat 5;", 1, 9);
        fault("mark a 5 xxxxxxxat 5;", 1, 9);
        right("mark aat 5;", 1);
        fault("mark aat5;mark a at5;", 1, 17);
        fault("mark aB 5;", 1, 6);
    }

    @Says(at = "Term 5", text = "a number a maximal run of 1 to 5 digits")
    static void term5Numbers() {
        CHECK.due("five digits", "99999 10", Check.wall("mark a 99999;").mark(0, 0) + " " + Check.wall("mark a 00010;").mark(0, 0));
        fault("mark a 000000;", 1, 7);
        fault("mark a 4294967301;", 1, 7);
        fault("mark a " + "0".repeat(800) + "5;", 1, 7);
        fault("mark a 1 2;", 1, 9);
        fault("mark a 1.2;", 1, 8);
        right("mark a0at0;", 1);
        right("mark a9at9;", 1);
    }

    @Says(at = "Term 5", text = "Spaces (byte 32) and line feeds (byte 10) may stand between tokens")
    static void term5EachByte() {
        for (int value = 0; value < 256; value++) {
            char sign = (char) value;
            boolean blank = value == 32 || value == 10;
            boolean digit = value >= '0' && value <= '9';
            boolean letter = value >= 'a' && value <= 'z';
            if (blank) {
                right("" + sign, 0);
                right("mark" + sign + "ab" + sign + "5" + sign + ";" + sign, 1);
                fault("mar" + sign + "k a 5;", 1, 0);
            } else {
                fault("" + sign, 1, 0);
                fault("mark ab 5;" + sign, 1, 10);
            }
            if (digit) right("mark ab" + sign + "5;", 1);
            if (letter) right("mark ab" + sign + "5;", 1);
            if (!blank && !digit && !letter) fault("mark ab" + sign + "5;", 1, 7);
        }
    }

    @Says(at = "Term 5", text = "S a number with or without a minus sign (a token of its own) ahead")
    static void term5MinusSign() {
        CHECK.due("close", -5, Check.wall("mark a 1 at -5;").height(0));
        CHECK.due("apart", -5, Check.wall("mark a 1 at- \n5;").height(0));
        fault("mark a 1 at --5;", 1, 13);
        fault("mark a 1 at -;", 1, 13);
        fault("mark a 1 at -", 1, 13);
        fault("mark a 1 at +5;", 1, 12);
        fault("mark a 1 at 5-;", 1, 13);
        fault("length -1;", 1, 7);
        fault("bend -0;", 1, 5);
        fault("limit - 1;", 1, 6);
        fault("mark a -1;", 1, 7);
    }

    @Says(at = "Term 5", text = "or the length of the text if more is required")
    static void term5MoreIsRequired() {
        String tokens = "mark a 5 at - 7 ; mark b 6 ; sight a b fore - 3 heat - 4 ; sight b a back 3 ; length 9 ; error - 5 ; bend 3 ;"
                + " warm - 2 ; limit 8 ;";
        String text = "";
        for (String token : tokens.split(" ")) {
            text += text.isEmpty() ? token : " " + token;
            if (token.equals(";")) {
                CHECK.due("whole <" + text + ">", true, Check.parse(new SpiritWall(), text) != NONE);
            } else {
                fault(text, 1, text.length());
                fault(text + " \n ", 1, text.length() + 3);
            }
        }
    }

    @Says(at = "Term 5", text = "the index of the first byte of the token at fault")
    static void term5FirstByte() {
        fault("  \n abc;", 1, 4);
        fault("mark a 5 \n  123456;", 1, 12);
        fault("mark \n abcdefgh 5;", 1, 7);
        fault("length \n 12345;", 2, 9);
        fault("mark abc 5; mark abc 6;", 3, 17);
        fault("mark abc 5; mark def 00005;", 3, 21);
        fault("mark abc 5; sight  xyz abc fore 1;", 4, 19);
    }

    @Says(at = "Term 5", text = "The first error from the left is reported")
    static void term5FirstError() {
        fault("mark a 1;mark a 1;length 0;", 3, 14);
        fault("length 0;x", 2, 7);
        fault("x;length 0;", 1, 0);
        fault("sight q q fore 99999;", 4, 6);
        fault("mark a 1;sight a q fore 99999;", 4, 17);
        fault("mark a 1;sight a a fore 99999;", 3, 17);
        fault(PAIR + "sight a b fore 10000 heat 61;", 2, 33);
        fault("mark a 1;mark b 1 at x;", 3, 16);
        fault("error 1000", 2, 6);
        fault("length 1;length", 3, 9);
    }

    @Says(at = "Term 5", text = "if several codes apply to a token, the smallest one")
    static void term5SmallestCode() {
        fault("length 5 length 6;", 1, 9);
        fault("limit 100000;", 1, 6);
        fault("mark a 1;mark b 000001;", 1, 16);
        String twelve = Boundary.marks(12, 1);
        fault(twelve.substring(0, twelve.length() - 1) + " mark m 12;", 1, twelve.length());
        String forty = PAIR + fortySights();
        fault(forty.substring(0, forty.length() - 1) + " sight a b fore 1;", 1, forty.length());
        fault("sight fore a fore 1;", 1, 6);
        fault("sight abcdefg a fore 1;", 1, 6);
    }

    @Says(at = "Term 5", text = "1: a token that cannot stand there (also a quoted word for a name), a name that is too long, a number of"
            + " more than 5 digits, or a byte that is no token.")
    static void term5Code1() {
        for (String word : QUOTED) {
            boolean first = "mark sight length error bend warm limit".contains(word);
            fault(word, 1, first ? word.length() : 0);
            fault("mark a 5 " + word + "x 6;", 1, 9);
            if (!word.equals("at")) fault("mark a 5 " + word + " 6;", 1, 9);
            if (!word.equals("heat")) fault(PAIR + "sight a b fore 5 " + word + " 6;", 1, 35);
            if (!word.equals("fore") && !word.equals("back")) fault(PAIR + "sight a b " + word + " 5;", 1, 28);
        }
        fault("mark abcdefg 5;", 1, 5);
        fault("mark a 123456;", 1, 7);
        fault("mark a 5;\u00ff", 1, 9);
        fault("a;", 1, 0);
        fault("5;", 1, 0);
        fault("-;", 1, 0);
    }

    @Says(at = "Term 5", text = "2: a number that is out of its range (of S at the number).")
    static void term5Code2() {
        fault("warm 100;", 2, 5);
        fault("warm -100;", 2, 6);
        fault("warm - \n 100;", 2, 9);
        fault("length 0;", 2, 7);
        fault(PAIR + "sight a b fore -10000;", 2, 34);
        fault(PAIR + "sight a b fore 0 heat - 41;", 2, 42);
    }

    @Says(at = "Term 5", text = "3: a name told again; the place of another mark; the second name of a sight if it is the first one")
    static void term5Code3() {
        fault("mark a 1;mark a 1;", 3, 14);
        fault("mark a 1;mark a", 3, 14);
        fault("mark a 1;mark aa 1;", 3, 17);
        fault(PAIR + "sight b b fore 1;", 3, 26);
        fault(PAIR + "sight b b", 3, 26);
        fault(Boundary.marks(11, 1) + "mark k 99;", 3, Boundary.marks(11, 1).length() + 5);
        fault(Boundary.marks(11, 1) + "mark a 99;", 3, Boundary.marks(11, 1).length() + 5);
        right("mark a 1;mark aa 2;mark aaa 3;", 3);
    }

    @Says(at = "Term 5", text = "the first word of a second statement of a kind other than mark and sight (statements stand in any order)")
    static void term5SecondStatement() {
        for (String kind : new String[] {"length", "error", "bend", "warm", "limit"}) {
            String one = kind + " 7;";
            fault(one + kind + " 7;", 3, one.length());
            fault(one + kind, 3, one.length());
            fault(one + PAIR + kind + " x", 3, one.length() + PAIR.length());
            right(PAIR + one, 2);
            right(one + PAIR, 2);
        }
        right("limit 1;warm 1;bend 1;error 1;length 1;", 0);
        right("mark a 1;limit 1;mark b 2;bend 1;sight a b fore 1;length 1;sight a b fore 1;", 2);
        fault("limit 1;warm 1;bend 1;error 1;length 1;limit 1;", 3, 39);
    }

    @Says(at = "Term 5", text = "4: a name of no mark told ahead of it, in a sight.")
    static void term5Code4() {
        fault("sight a b fore 1;" + PAIR, 4, 6);
        fault("mark a 1;sight a b fore 1;mark b 2;", 4, 17);
        fault("mark a 1;sight b a fore 1;mark b 2;", 4, 15);
        fault("mark a 1;sight q q fore 1;", 4, 15);
        fault("mark a 1;sight aa a fore 1;", 4, 15);
    }

    @Says(at = "Term 5", text = "5: the first word of a 13th mark or a 41st sight.")
    static void term5Code5() {
        String marks = Boundary.marks(12, 1);
        right(marks, 12);
        fault(marks + "mark", 5, marks.length());
        fault(marks + "mark a 0 x", 5, marks.length());
        fault(marks + "limit 5; mark m 77;", 5, marks.length() + 9);
        String sights = marks + fortySights();
        right(sights, 12);
        right(sights + "limit 5;", 12);
        fault(sights + "sight", 5, sights.length());
        fault(sights + "sight a a x", 5, sights.length());
        fault(sights + "mark m 77;", 5, sights.length());
        String few = PAIR + fortySights();
        right(few + "mark c 3;", 3);
        fault(few + "mark c 3;sight a c fore 1;", 5, few.length() + 9);
    }
}
