/** A test for each sentence on the bounds of the tape (promises 6 and 7). */
public final class TapeEdgesTest {
    private static final int BLANKS = 0x20202020;

    public static void main(String[] args) {
        twentyAtOnce();
        highestFirst();
        everyByte();
        upTo300();
        noneComeBeyond();
        firstAlone();
        cutOffIsNotRead();
        notSoMany();
        belowZero();
        emptyTape();
        Check.finish();
    }

    private static int feedBlanks(TributeLists x) {
        return x.feed(BLANKS, BLANKS, BLANKS, BLANKS, BLANKS);
    }

    private static void twentyAtOnce() {
        Check.sentence("feed: twenty bytes come behind the tape: how many it has");
        TributeLists x = new TributeLists();
        for (int k = 1; k <= 15; k++) {
            Check.due("feed no. " + k, feedBlanks(x), 20 * k);
            Check.due("about(6)", x.about(6), 20 * k);
        }
        x.end(1);
        Check.due("feed behind one byte", feedBlanks(x), 21);
    }

    private static void highestFirst() {
        Check.sentence("feed: the highest of a first");
        TributeLists x = new TributeLists();
        // "town", " 15:", "5 43", "21;\n", "   \n".
        Check.due("feed", x.feed(0x746F776E, 0x2031353A, 0x35203433, 0x32313B0A, 0x2020200A), 20);
        Check.due("copy(0)", x.copy(0), 1);
        Check.due("tells(0, 15, 5)", x.tells(0, 15, 5), 4321);
    }

    private static void everyByte() {
        Check.sentence("feed: a byte above 127 changes none beside it");
        for (int place = 0; place < 20; place++) {
            TributeLists x = new TributeLists();
            char[] text = " ".repeat(20).toCharArray();
            text[place] = 255;
            Check.due("copy with 255 at " + place, Check.read(x, 0, new String(text)), -1);
            Check.due("fault(0)", x.fault(0), 1);
            Check.due("fault(1)", x.fault(1), place);
        }
    }

    private static void upTo300() {
        Check.sentence("texts of up to 300 bytes");
        TributeLists x = new TributeLists();
        Check.tape(x, " ".repeat(289) + "town 1:0 5;");
        Check.due("about(6)", x.about(6), 300);
        Check.due("copy(0)", x.copy(0), 1);
        Check.due("tells(0, 1, 0)", x.tells(0, 1, 0), 5);
        Check.due("copy(0) with a fault in the last byte", Check.read(x, 0, " ".repeat(299) + "x"), -1);
        Check.due("fault(1)", x.fault(1), 299);
    }

    private static void noneComeBeyond() {
        Check.sentence("feed: NONE, and none come, if there would be more than 300");
        for (int had = 279; had <= 300; had++) {
            TributeLists x = new TributeLists();
            Check.tape(x, "town 1:0 5;" + " ".repeat(had - 11));
            boolean fits = had <= 280;
            Check.due("feed behind " + had, x.feed(0x23232323, 0, 0, 0, 0), fits ? had + 20 : -1);
            Check.due("about(6)", x.about(6), fits ? had + 20 : had);
            Check.due("copy(0)", x.copy(0), fits ? -1 : 1);
            Check.due("fault(1)", x.fault(1), fits ? had : -1);
        }
    }

    private static void firstAlone() {
        Check.sentence("end: the tape has its first n bytes alone: n");
        TributeLists x = new TributeLists();
        for (int k = 0; k < 15; k++) {
            feedBlanks(x);
        }
        for (int n = 300; n >= 0; n--) {
            Check.due("end(" + n + ")", x.end(n), n);
        }
        Check.due("about(6)", x.about(6), 0);
        Check.tape(x, "town 1:0 5;town 2:0 6;");
        Check.due("end(22) of 22", x.end(22), 22);
        Check.due("end(11)", x.end(11), 11);
        Check.due("copy(0)", x.copy(0), 1);
        Check.due("tells(0, 1, 0)", x.tells(0, 1, 0), 5);
        Check.due("tells(0, 2, 0)", x.tells(0, 2, 0), -1);
    }

    private static void cut(String text, int n, int fault, int place) {
        TributeLists x = new TributeLists();
        Check.tape(x, text);
        x.end(n);
        Check.due("copy(0) of the first " + n + " of <" + text + ">", x.copy(0), fault == 0 ? 1 : -1);
        Check.due("fault(0)", x.fault(0), fault);
        Check.due("fault(1)", x.fault(1), place);
    }

    private static void cutOffIsNotRead() {
        Check.sentence("end: its first n bytes alone; copy: of the end at the length");
        cut("town 1:0 5;", 11, 0, -1);
        cut("town 1:0 5;#", 11, 0, -1);
        cut("town 1:0 5;5", 11, 0, -1);
        cut("town 1:0 5;town", 11, 0, -1);
        cut("town 16", 6, 1, 6);
        cut("town 1:00", 8, 1, 8);
        cut("town 1:0 99990", 13, 1, 13);
        cut("towns", 4, 1, 4);
        cut("town 1:0 5;towns", 15, 1, 15);
        cut("town      1", 7, 1, 7);
        cut("town 1:0 5;", 10, 1, 10);
        TributeLists x = new TributeLists();
        Check.tape(x, "town 1:0 1234;");
        x.copy(0);
        Check.tape(x, "town 1:0 5");
        Check.due("copy(0): what a text ahead had there is not read", x.copy(0), -1);
        Check.due("fault(1)", x.fault(1), 10);
    }

    private static void notSoMany() {
        Check.sentence("end: NONE, and nothing is done, if it has not so many");
        TributeLists x = new TributeLists();
        Check.tape(x, "town 1:0 5;");
        int[] many = {12, 20, 300, 301, 65547, 11 + (1 << 30), Integer.MAX_VALUE};
        Check.dueForAll("end(*) of 11", many, -1, x::end);
        Check.due("about(6)", x.about(6), 11);
        Check.due("copy(0)", x.copy(0), 1);
        TributeLists y = new TributeLists();
        for (int k = 0; k < 15; k++) {
            feedBlanks(y);
        }
        Check.due("end(301) of 300", y.end(301), -1);
        Check.due("about(6)", y.about(6), 300);
    }

    private static void belowZero() {
        Check.sentence("end: NONE, and nothing is done, if n is below 0");
        TributeLists x = new TributeLists();
        Check.tape(x, "town 1:0 5;");
        int[] below = {-1, -2, -11, -300, Integer.MIN_VALUE, Integer.MIN_VALUE + 11};
        Check.dueForAll("end(*)", below, -1, x::end);
        Check.due("about(6)", x.about(6), 11);
        Check.due("copy(0)", x.copy(0), 1);
    }

    private static void emptyTape() {
        Check.sentence("end of a tape that is empty");
        TributeLists x = new TributeLists();
        Check.due("about(6)", x.about(6), 0);
        Check.due("end(0)", x.end(0), 0);
        Check.due("end(1)", x.end(1), -1);
        Check.due("end(-1)", x.end(-1), -1);
        Check.due("about(6)", x.about(6), 0);
        Check.due("feed", feedBlanks(x), 20);
        Check.due("end(0)", x.end(0), 0);
        Check.due("about(6)", x.about(6), 0);
        Check.due("end(1): what was cut off does not come back", x.end(1), -1);
    }
}
