/** Promises 6 (feed) and 7 (end). */
public final class TapeTest {
    public static void main(String[] args) {
        filling();
        cutting();
        order();
        nothingBehindTheEnd();
        Check.finish();
    }

    private static void filling() {
        TributeLists x = new TributeLists();
        for (int n = 1; n <= 15; n++) {
            Check.due("feed no. " + n, x.feed(0x20202020, 0x20202020, 0x20202020, 0x20202020, 0x20202020), 20 * n);
        }
        Check.due("feed beyond 300", x.feed(1, 2, 3, 4, 5), -1);
        Check.due("about(6)", x.about(6), 300);
        Check.due("end(281)", x.end(281), 281);
        Check.due("feed to 301", x.feed(1, 2, 3, 4, 5), -1);
        Check.due("about(6)", x.about(6), 281);
        Check.due("end(280)", x.end(280), 280);
        Check.due("feed to 300", x.feed(0x20202020, 0x20202020, 0x20202020, 0x20202020, 0x20202020), 300);
        Check.due("copy(0) of 300 blanks", x.copy(0), 0);
    }

    private static void cutting() {
        TributeLists x = new TributeLists();
        Check.due("end(0) of an empty tape", x.end(0), 0);
        Check.due("end(1) of an empty tape", x.end(1), -1);
        x.feed(0, 0, 0, 0, 0);
        Check.due("end(21)", x.end(21), -1);
        Check.due("end(-1)", x.end(-1), -1);
        Check.due("end(min)", x.end(Integer.MIN_VALUE), -1);
        Check.due("end(max)", x.end(Integer.MAX_VALUE), -1);
        Check.due("about(6)", x.about(6), 20);
        Check.due("end(20)", x.end(20), 20);
        Check.due("end(7)", x.end(7), 7);
        Check.due("end(8)", x.end(8), -1);
        Check.due("feed", x.feed(0, 0, 0, 0, 0), 27);
    }

    private static void order() {
        TributeLists x = new TributeLists();
        String text = "town 12:0 1,2 3,4 56;town 3:5 9;";
        Check.tape(x, text);
        Check.due("copy(0)", x.copy(0), 2);
        Check.due("tells(0, 12, 4)", x.tells(0, 12, 4), 56);
        Check.due("tells(0, 3, 5)", x.tells(0, 3, 5), 9);
        // What was cut off is gone: bytes that come behind the cut take its place.
        Check.tape(x, "town 1:0 99;");
        x.end(9);
        x.feed(0x353B2020, 0x20202020, 0x20202020, 0x20202020, 0x20202020);
        Check.due("copy(1)", x.copy(1), 1);
        Check.due("tells(1, 1, 0)", x.tells(1, 1, 0), 5);
    }

    private static void nothingBehindTheEnd() {
        TributeLists x = new TributeLists();
        Check.tape(x, "town 12:0 1;");
        x.end(6);
        Check.due("copy(0) of <town 1>", x.copy(0), -1);
        Check.due("fault(1): bytes that were cut off are no part of the number", x.fault(1), 6);
        Check.tape(x, "town 1:0 1;towns");
        x.end(15);
        Check.due("copy(0) of <town 1:0 1;town>", x.copy(0), -1);
        Check.due("fault(1): nor of the word", x.fault(1), 15);
        Check.tape(x, " ".repeat(292) + "town 123");
        Check.due("copy(0) of 300 bytes with a number last", x.copy(0), -1);
        Check.due("fault(0)", x.fault(0), 3);
        Check.due("fault(1)", x.fault(1), 297);
        Check.tape(x, " ".repeat(296) + "town");
        Check.due("copy(0) of 300 bytes with a word last", x.copy(0), -1);
        Check.due("fault(1)", x.fault(1), 300);
    }
}
