/** A test for each sentence on the bounds of texts, COPIES and FAULTS (promises 8, 9 and 10). */
public final class ListEdgesTest {
    public static void main(String[] args) {
        everyByte();
        blanksAside();
        blanksPart();
        signsAlone();
        noLine();
        onePartAtLeast();
        mostLines();
        mostParts();
        townsOfTexts();
        goodsOfTexts();
        piecesOfTexts();
        zerosAhead();
        largeNumbers();
        placeOfTheEnd();
        firstByteOfTheToken();
        firstFault();
        leastFault();
        townTwice();
        goodTwice();
        numbersOfCopies();
        noSuchCopy();
        emptyThen();
        inPlace();
        formerStays();
        faultOfNoneRead();
        ahead();
        latestText();
        othersOfFault();
        othersOfTells();
        nothingAndZero();
        Check.finish();
    }

    private static void good(String text, int lines) {
        TributeLists x = new TributeLists();
        Check.due("copy of <" + text + ">", Check.read(x, 2, text), lines);
        Check.due("fault(0) of <" + text + ">", x.fault(0), 0);
        Check.due("fault(1) of <" + text + ">", x.fault(1), -1);
    }

    private static void bad(String text, int fault, int place) {
        TributeLists x = new TributeLists();
        Check.due("copy of <" + text + ">", Check.read(x, 2, text), -1);
        Check.due("fault(0) of <" + text + ">", x.fault(0), fault);
        Check.due("fault(1) of <" + text + ">", x.fault(1), place);
    }

    private static void everyByte() {
        Check.sentence("TOKENS: letters a .. z, A .. Z, digits, and ; , : alone; 1 it is none");
        for (char c = 0; c < 256; c++) {
            String text = "town" + c + "1:0 5;";
            if (c == 32 || c == 10 || c == '0' || c == '1') {
                good(text, 1);
            } else if (c >= 'a' && c <= 'z' || c >= 'A' && c <= 'Z') {
                bad(text, 1, 0);
            } else {
                bad(text, c >= '2' && c <= '9' ? 3 : 1, 4);
            }
        }
    }

    private static void blanksAside() {
        Check.sentence("blanks (32) and 10 aside");
        String[] tokens = {"town", "1", ":", "0", "5", ",", "1", "6", ";", "town", "2", ":", "0", "7", ";"};
        for (String gap : new String[] {" ", "\n", "  ", "\n\n", " \n", "\n "}) {
            good(gap + String.join(gap, tokens) + gap, 2);
            good(String.join(gap, tokens), 2);
        }
        good("town1:0 5,1 6;town2:0 7;", 2);
        bad("town 1:0\t5;", 1, 8);
        bad("town 1:0\r5;", 1, 8);
        bad("town 1:0\u00a05;", 1, 8);
        bad("town 1:0 5;\0", 1, 11);
    }

    private static void blanksPart() {
        Check.sentence("letters one behind the other, digits one behind the other");
        bad("to wn 1:0 5;", 1, 0);
        bad("town 1 2:0 5;", 1, 7);
        bad("town 1:0 5 6;", 1, 11);
        bad("town 1:0\n5\n6;", 1, 11);
        bad("town 1:05;", 1, 9);
        bad("towntown 1:0 5;", 1, 0);
        bad("town town 1:0 5;", 1, 5);
    }

    private static void signsAlone() {
        Check.sentence("; , : alone");
        bad("town 1::0 5;", 1, 7);
        bad("town 1:0 5,,1 6;", 1, 11);
        bad("town 1:0 5;;", 1, 11);
        bad("town 1:0 5,;", 1, 11);
        bad(":", 1, 0);
        bad(",", 1, 0);
        bad(";", 1, 0);
    }

    private static void noLine() {
        Check.sentence("the text: {LINE}, none too");
        good("", 0);
        good(" ", 0);
        good("\n", 0);
        good(" ".repeat(300), 0);
        good("\n".repeat(300), 0);
    }

    private static void onePartAtLeast() {
        Check.sentence("LINE: town NUMBER : PART {, PART} ;");
        bad("town 1;", 1, 6);
        bad("town 1:;", 1, 7);
        bad("town 1:0;", 1, 8);
        bad("town:0 5;", 1, 4);
        bad("town 1 0 5;", 1, 7);
        bad("1:0 5;", 1, 0);
        bad("Town 1:0 5;", 1, 0);
        bad("towns 1:0 5;", 1, 0);
        bad("tow 1:0 5;", 1, 0);
        good("town 1:0 5;", 1);
        good("town 1:0 5,1 5;", 1);
    }

    private static String linesUpTo(int last) {
        StringBuilder s = new StringBuilder();
        for (int t = 1; t <= last; t++) {
            s.append("town ").append(t).append(":0 1;");
        }
        return s.toString();
    }

    private static void mostLines() {
        Check.sentence("copy: how many LINES");
        for (int n = 0; n <= 15; n++) {
            good(linesUpTo(n), n);
        }
        String full = linesUpTo(15);
        bad(full + "town 16:0 1;", 3, full.length() + 5);
        bad(full + "town 15:0 1;", 2, full.length() + 5);
    }

    private static void mostParts() {
        Check.sentence("PART {, PART}, a GOOD each");
        good("town 1:5 1,4 1,3 1,2 1,1 1,0 1;", 1);
        bad("town 1:5 1,4 1,3 1,2 1,1 1,0 1,0 1;", 2, 31);
        bad("town 1:5 1,4 1,3 1,2 1,1 1,0 1,5 1;", 2, 31);
        bad("town 1:5 1,4 1,3 1,2 1,1 1,0 1,6 1;", 3, 31);
    }

    private static void townsOfTexts() {
        Check.sentence("3 a NUMBER that isn't a TOWN 1 .. 15");
        for (int t = 1; t <= 15; t++) {
            TributeLists x = new TributeLists();
            Check.due("copy of town " + t, Check.read(x, 0, "town " + t + ":0 9;"), 1);
            for (int p = 1; p <= 15; p++) {
                Check.due("tells(0, " + p + ", 0)", x.tells(0, p, 0), p == t ? 9 : -1);
            }
        }
        bad("town 0:0 9;", 3, 5);
        bad("town 16:0 9;", 3, 5);
        bad("town 17:0 9;", 3, 5);
        bad("town 99:0 9;", 3, 5);
        bad("town 100:0 9;", 3, 5);
    }

    private static void goodsOfTexts() {
        Check.sentence("3 a NUMBER that isn't a GOOD 0 .. 5");
        for (int g = 0; g <= 5; g++) {
            TributeLists x = new TributeLists();
            Check.due("copy of good " + g, Check.read(x, 0, "town 15:" + g + " 9;"), 1);
            for (int h = 0; h <= 5; h++) {
                Check.due("tells(0, 15, " + h + ")", x.tells(0, 15, h), h == g ? 9 : -1);
            }
        }
        bad("town 1:6 9;", 3, 7);
        bad("town 1:7 9;", 3, 7);
        bad("town 1:10 9;", 3, 7);
        bad("town 1:0 9,6 9;", 3, 11);
    }

    private static void piecesOfTexts() {
        Check.sentence("3 a NUMBER that isn't pieces 0 .. 9999");
        for (int n : new int[] {0, 1, 9, 10, 999, 1000, 9998, 9999}) {
            TributeLists x = new TributeLists();
            Check.due("copy of pieces " + n, Check.read(x, 0, "town 1:0 " + n + ";"), 1);
            Check.due("tells(0, 1, 0)", x.tells(0, 1, 0), n);
        }
        for (int n : new int[] {10000, 10001, 65536, 99999, 100000, 100001, 1000000}) {
            bad("town 1:0 " + n + ";", 3, 9);
        }
    }

    private static void zerosAhead() {
        Check.sentence("digits one behind the other (NUMBERS): zeros ahead too");
        TributeLists x = new TributeLists();
        Check.due("copy", Check.read(x, 0, "town 00015:0005 0009999,00 00;"), 1);
        Check.due("tells(0, 15, 5)", x.tells(0, 15, 5), 9999);
        Check.due("tells(0, 15, 0)", x.tells(0, 15, 0), 0);
        bad("town 00:0 5;", 3, 5);
        bad("town 016:0 5;", 3, 5);
        bad("town 1:06 5;", 3, 7);
        bad("town 1:0 010000;", 3, 9);
        good("town 1:0 " + "0".repeat(286) + "9999;", 1);
    }

    private static void largeNumbers() {
        Check.sentence("3 a NUMBER that isn't one of those told, however large");
        String[] wrapped = {"257", "65537", "2147483647", "2147483648", "2147483649", "4294967296", "4294967297",
            "9223372036854775807", "9223372036854775808", "18446744073709551616", "18446744073709551617", "1" + "0".repeat(250),
            "9".repeat(250)};
        for (String n : wrapped) {
            bad("town " + n + ":0 5;", 3, 5);
            bad("town 1:" + n + " 5;", 3, 7);
        }
        for (String n : wrapped) {
            if (!n.equals("257")) {
                bad("town 1:0 " + n + ";", 3, 9);
            }
        }
        good("town 1:0 257;", 1);
        bad("town 1:0 65536" + "0".repeat(32) + ";", 3, 9);
    }

    private static void placeOfTheEnd() {
        Check.sentence("at the TOKEN's first byte (of the end at the length)");
        String text = "town 12:3 45,5 6;";
        bad("town", 1, 4);
        for (int n = 5; n < text.length(); n++) {
            bad(text.substring(0, n), 1, n);
        }
        good(text, 1);
        bad("town  \n", 1, 7);
        bad("town 1:0 5" + " ".repeat(290), 1, 300);
        bad(" ".repeat(296) + "town", 1, 300);
        bad(text + "town", 1, text.length() + 4);
    }

    private static void firstByteOfTheToken() {
        Check.sentence("at the TOKEN's first byte");
        bad("t", 1, 0);
        bad("to", 1, 0);
        bad("tow", 1, 0);
        bad(" \n towm 1:0 5;", 1, 3);
        bad("town   0016:0 5;", 3, 7);
        bad("town 1: 66 5;", 3, 8);
        bad("town 1:0  10000;", 3, 10);
        bad("town 1:0 5;town  1:0 5;", 2, 17);
        bad("town 1:0 5, 00 5;", 2, 12);
        bad(" ".repeat(299) + "#", 1, 299);
    }

    private static void firstFault() {
        Check.sentence("FAULTS, the first as TOKENS are come to");
        bad("town 16:6 10000 #", 3, 5);
        bad("town 1:6 10000;town 1", 3, 7);
        bad("town 1:0 10000 #", 3, 9);
        bad("town 1:0 5,0 10000;town 1:0 5;", 2, 11);
        bad("town 1:0 5;town 1:6 5;", 2, 16);
        bad("town 1 # 16:0 5;", 1, 7);
        bad("# town 16:0 5;", 1, 0);
        bad("town 1:0 5;x town 1:0 5;", 1, 11);
    }

    private static void leastFault() {
        Check.sentence("FAULTS, of one the least: a NUMBER that can't stand there is 1, whatever it is");
        bad("16", 1, 0);
        bad("99999", 1, 0);
        bad("town 1 16:0 5;", 1, 7);
        bad("town 1 1:0 5;", 1, 7);
        bad("town 1:0 5 0;", 1, 11);
        bad("town 1:0 5 10000;", 1, 11);
        bad("town 1:0 5;16:0 5;", 1, 11);
        bad("town 1:0 5;1:0 5;", 1, 11);
    }

    private static void townTwice() {
        Check.sentence("2 a TOWN for the second time in the text");
        for (int t = 1; t <= 15; t++) {
            String line = "town " + t + ":0 5;";
            bad(line + line, 2, line.length() + 5);
        }
        bad("town 1:0 5;town 2:0 5;town 15:0 5;town 01:0 5;", 2, 39);
        bad("town 1:0 5;town 1", 2, 16);
        TributeLists x = new TributeLists();
        Check.read(x, 0, "town 1:0 5;town 1:0 5;");
        Check.due("copy: a TOWN of the text ahead is new", Check.read(x, 0, "town 1:0 6;"), 1);
        Check.due("copy: so is one of another COPY", Check.read(x, 1, "town 1:0 6;"), 1);
    }

    private static void goodTwice() {
        Check.sentence("2 a GOOD in its LINE (at the NUMBER)");
        for (int g = 0; g <= 5; g++) {
            bad("town 1:" + g + " 0," + g + " 5;", 2, 11);
        }
        bad("town 1:0 5,1 5,5 5,0 5;", 2, 19);
        bad("town 1:0 5,0", 2, 11);
        good("town 1:0 5;town 2:0 5;", 2);
        good("town 15:5 5;town 14:5 5;", 2);
        // Pieces that are like a GOOD's number, or a TOWN's, are no second time.
        good("town 1:0 1,1 0;town 2:0 0,1 1;", 2);
    }

    private static void numbersOfCopies() {
        Check.sentence("COPIES 0 .. 4");
        TributeLists x = new TributeLists();
        for (int c = 0; c < 5; c++) {
            Check.due("copy(" + c + ")", Check.read(x, c, "town 1:0 " + (c + 7) + ";"), 1);
            Check.due("about(7)", x.about(7), c + 1);
        }
        for (int c = 0; c < 5; c++) {
            Check.due("tells(" + c + ", 1, 0)", x.tells(c, 1, 0), c + 7);
        }
    }

    private static void noSuchCopy() {
        Check.sentence("copy: NONE: or (the tape stays) there is no such COPY");
        TributeLists x = new TributeLists();
        Check.read(x, 4, "town 1:0 5;town");
        Check.tape(x, "town 1:0 6;");
        Check.dueForAll("copy(*)", Check.beyond(0, 4), -1, x::copy);
        Check.due("about(6)", x.about(6), 11);
        Check.due("about(7)", x.about(7), 0);
        Check.due("fault(0): still of the text ahead", x.fault(0), 1);
        Check.due("fault(1)", x.fault(1), 15);
        Check.due("copy(4): what stayed is read", x.copy(4), 1);
        Check.due("tells(4, 1, 0)", x.tells(4, 1, 0), 6);
        Check.tape(x, "town 1:0 7;town");
        Check.due("copy(5) of a text with a FAULT", x.copy(5), -1);
        Check.due("fault(0)", x.fault(0), 0);
        Check.due("fault(1)", x.fault(1), -1);
        Check.due("about(6)", x.about(6), 15);
    }

    private static void emptyThen() {
        Check.sentence("copy: the tape (empty then)");
        TributeLists x = new TributeLists();
        Check.tape(x, "town 1:0 5;");
        Check.due("copy(0)", x.copy(0), 1);
        Check.due("about(6)", x.about(6), 0);
        Check.due("end(1)", x.end(1), -1);
        Check.due("copy(1): a text without bytes", x.copy(1), 0);
        Check.due("tells(1, 1, 0)", x.tells(1, 1, 0), -1);
        Check.due("feed", x.feed(0, 0, 0, 0, 0), 20);
        Check.due("copy(0) with a FAULT", x.copy(0), -1);
        Check.due("about(6) behind a FAULT", x.about(6), 0);
    }

    private static void inPlace() {
        Check.sentence("copy: a COPY from now on, in place of what it was");
        TributeLists x = new TributeLists();
        Check.read(x, 0, "town 1:0 5,5 6;town 15:0 7,5 8;");
        Check.read(x, 0, "town 1:5 9;");
        Check.due("tells(0, 1, 0)", x.tells(0, 1, 0), -1);
        Check.due("tells(0, 1, 5)", x.tells(0, 1, 5), 9);
        Check.due("tells(0, 15, 0)", x.tells(0, 15, 0), -1);
        Check.due("tells(0, 15, 5)", x.tells(0, 15, 5), -1);
        Check.due("owed(15, 5)", x.owed(15, 5), 0);
        Check.due("copy(0) of nothing", x.copy(0), 0);
        Check.due("tells(0, 1, 5)", x.tells(0, 1, 5), -1);
        Check.due("about(7)", x.about(7), 1);
    }

    private static void formerStays() {
        Check.sentence("copy: NONE: it has a FAULT, the former one stays");
        String[] faults = {"town 1:0 6;town 2:0 7;x", "town 1:0 6;town 1:1 6;", "town 1:0 6,2 10000;", "town 1:0 6,6 1;", "town 1:0 6"};
        TributeLists x = new TributeLists();
        Check.read(x, 0, "town 1:0 5,1 4;");
        Check.read(x, 1, "town 1:0 8;");
        for (String text : faults) {
            Check.due("copy(0) of <" + text + ">", Check.read(x, 0, text), -1);
            Check.due("tells(0, 1, 0)", x.tells(0, 1, 0), 5);
            Check.due("tells(0, 1, 1)", x.tells(0, 1, 1), 4);
            Check.due("tells(0, 1, 2)", x.tells(0, 1, 2), -1);
            Check.due("tells(0, 2, 0)", x.tells(0, 2, 0), -1);
            Check.due("owed(1, 0): not read later for it", x.owed(1, 0), 8);
            Check.due("about(7)", x.about(7), 2);
        }
    }

    private static void faultOfNoneRead() {
        Check.sentence("copy: a FAULT where there was no former one");
        TributeLists x = new TributeLists();
        Check.due("copy(4)", Check.read(x, 4, "town 1:0 5;town 1:0 5;"), -1);
        Check.due("tells(4, 1, 0)", x.tells(4, 1, 0), -1);
        Check.due("owed(1, 0)", x.owed(1, 0), 0);
        Check.due("about(7)", x.about(7), 0);
    }

    private static void ahead() {
        Check.sentence("fault: NONE ahead of any");
        TributeLists x = new TributeLists();
        Check.due("fault(0)", x.fault(0), -1);
        Check.due("fault(1)", x.fault(1), -1);
        x.feed(0, 0, 0, 0, 0);
        x.copy(5);
        x.copy(-1);
        Check.due("fault(0): bytes on the tape are no text yet", x.fault(0), -1);
        Check.due("fault(1)", x.fault(1), -1);
        x.end(0);
        x.copy(0);
        Check.due("fault(0) of an empty text", x.fault(0), 0);
        Check.due("fault(1) of an empty text", x.fault(1), -1);
    }

    private static void latestText() {
        Check.sentence("fault: of the latest text: 0 its FAULT (0 without), 1 its place (NONE without)");
        TributeLists x = new TributeLists();
        String[] texts = {"town 16:0 1;", "town 1:0 1;", "town 1:0 1,0 1;", "", "x", "town 1:0 1;"};
        int[] faults = {3, 0, 2, 0, 1, 0};
        int[] places = {5, -1, 11, -1, 0, -1};
        for (int k = 0; k < texts.length; k++) {
            Check.read(x, k % 5, texts[k]);
            Check.due("fault(0) of <" + texts[k] + ">", x.fault(0), faults[k]);
            Check.due("fault(1) of <" + texts[k] + ">", x.fault(1), places[k]);
            Check.due("fault(0) once more", x.fault(0), faults[k]);
        }
    }

    private static void othersOfFault() {
        Check.sentence("fault: NONE for others");
        TributeLists x = new TributeLists();
        Check.dueForAll("fault(*) ahead of any", Check.beyond(0, 1), -1, x::fault);
        Check.read(x, 0, "town 16:0 1;");
        Check.dueForAll("fault(*) with a FAULT", Check.beyond(0, 1), -1, x::fault);
        Check.read(x, 0, "town 15:0 1;");
        Check.dueForAll("fault(*) without one", Check.beyond(0, 1), -1, x::fault);
    }

    private static void othersOfTells() {
        Check.sentence("tells: NONE for others");
        TributeLists x = new TributeLists();
        for (int c = 0; c < 5; c++) {
            Check.read(x, c, "town 1:0 5,5 5;town 15:0 5,5 5;");
            Check.due("tells(" + c + ", 1, 0)", x.tells(c, 1, 0), 5);
            Check.due("tells(" + c + ", 15, 5)", x.tells(c, 15, 5), 5);
        }
        Check.dueForAll("tells(*, 1, 0)", Check.beyond(0, 4), -1, v -> x.tells(v, 1, 0));
        Check.dueForAll("tells(0, *, 0)", Check.beyond(1, 15), -1, v -> x.tells(0, v, 0));
        Check.dueForAll("tells(4, *, 5)", Check.beyond(1, 15), -1, v -> x.tells(4, v, 5));
        Check.dueForAll("tells(0, 1, *)", Check.beyond(0, 5), -1, v -> x.tells(0, 1, v));
        Check.dueForAll("tells(4, 15, *)", Check.beyond(0, 5), -1, v -> x.tells(4, 15, v));
    }

    private static void nothingAndZero() {
        Check.sentence("a COPY tells a number of pieces, or nothing (if it isn't in it)");
        TributeLists x = new TributeLists();
        Check.due("tells(0, 1, 0) of a COPY that wasn't read", x.tells(0, 1, 0), -1);
        Check.read(x, 0, "town 1:0 0;");
        Check.due("tells(0, 1, 0): 0 is a number", x.tells(0, 1, 0), 0);
        Check.due("tells(0, 1, 1): another GOOD", x.tells(0, 1, 1), -1);
        Check.due("tells(0, 2, 0): another TOWN", x.tells(0, 2, 0), -1);
        Check.due("tells(1, 1, 0): another COPY", x.tells(1, 1, 0), -1);
    }
}
