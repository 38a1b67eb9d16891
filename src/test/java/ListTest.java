/** Promises 8 (copy), 9 (fault) and 10 (tells). */
public final class ListTest {
    public static void main(String[] args) {
        texts();
        faults();
        stays();
        replaced();
        tellsOfOthers();
        longTexts();
        Check.finish();
    }

    private static void good(String text, int lines) {
        TributeLists x = new TributeLists();
        Check.due("copy of <" + text + ">", Check.read(x, 2, text), lines);
        Check.due("fault(0) of <" + text + ">", x.fault(0), 0);
        Check.due("fault(1) of <" + text + ">", x.fault(1), -1);
        Check.due("fault(2)", x.fault(2), -1);
        Check.due("fault(-1)", x.fault(-1), -1);
        Check.due("about(6) of <" + text + ">", x.about(6), 0);
        Check.due("about(7) of <" + text + ">", x.about(7), 1);
    }

    private static void bad(String text, int fault, int place) {
        TributeLists x = new TributeLists();
        Check.due("copy of <" + text + ">", Check.read(x, 2, text), -1);
        Check.due("fault(0) of <" + text + ">", x.fault(0), fault);
        Check.due("fault(1) of <" + text + ">", x.fault(1), place);
        Check.due("fault(2)", x.fault(2), -1);
        Check.due("about(6) of <" + text + ">", x.about(6), 0);
        Check.due("about(7) of <" + text + ">", x.about(7), 0);
    }

    private static void texts() {
        good("", 0);
        good(" \n ", 0);
        good("town 1:0 0;", 1);
        good("town1:0 0;", 1);
        good("town15:5 9999;", 1);
        good("\ntown\n1\n:\n0\n5\n,\n1\n6\n;\n", 1);
        good("town 1:0 1;town 2:0 1;town 3:0 1;", 3);
        good("town 001:00005 0000000000000000009;", 1);
        good("town 1:0 1,1 1,2 1,3 1,4 1,5 1;", 1);
        good("town 1:5 1,0 1;town 2:5 1,0 1;", 2);
    }

    private static void faults() {
        bad("town", 1, 4);
        bad("town  ", 1, 6);
        bad("town 1", 1, 6);
        bad("town 1:", 1, 7);
        bad("town 1:0", 1, 8);
        bad("town 1:0 5", 1, 10);
        bad("town 1:0 5,", 1, 11);
        bad("town 1:0 5 \n", 1, 12);
        bad("towns 1:0 5;", 1, 0);
        bad(" tow 1:0 5;", 1, 1);
        bad("TOWN 1:0 5;", 1, 0);
        bad("towN 1:0 5;", 1, 0);
        bad("towntown 1:0 5;", 1, 0);
        bad("town town:0 5;", 1, 5);
        bad("1:0 5;", 1, 0);
        bad(";", 1, 0);
        bad("town 1;", 1, 6);
        bad("town 1:;", 1, 7);
        bad("town 1:0;", 1, 8);
        bad("town 1:0,5;", 1, 8);
        bad("town 1:0 5,;", 1, 11);
        bad("town 1:0 5;;", 1, 11);
        bad("town 1:0 5:", 1, 10);
        bad("town 1:0 5 6;", 1, 11);
        bad("town 1::0 5;", 1, 7);
        bad("town 1:0 5;x", 1, 11);
        bad("town 1:0 5#;", 1, 10);
        bad("town 1:0 -5;", 1, 9);
        bad("town\t1:0 5;", 1, 4);
        bad("town 1:0 5;\r\n", 1, 11);
        bad("\0", 1, 0);
        bad("town 1:0 5;\u00ff", 1, 11);
        bad("town \u00b1:0 5;", 1, 5);
        bad("@", 1, 0);
        bad("[", 1, 0);
        bad("`", 1, 0);
        bad("{", 1, 0);
        bad("town /", 1, 5);
        bad("town 0:0 5;", 3, 5);
        bad("town 16:0 5;", 3, 5);
        bad("town 4294967297:0 5;", 3, 5);
        bad("town 18446744073709551617:0 5;", 3, 5);
        bad("town 1:6 5;", 3, 7);
        bad("town 1:4294967296 5;", 3, 7);
        bad("town 1:0 10000;", 3, 9);
        bad("town 1:0 4294967297;", 3, 9);
        bad("town 1:0 5;town 1:1 5;", 2, 16);
        bad("town 1:0 5;town 2:0 5;town 01:1 5;", 2, 27);
        bad("town 1:0 5,0 5;", 2, 11);
        bad("town 1:0 0,0 5;", 2, 11);
        bad("town 1:3 1,4 1,03 1;", 2, 15);
        // The first fault counts, whatever stands behind it.
        bad("town 16 0 #", 3, 5);
        bad("town 1:0 1,0 10000;town 1", 2, 11);
        bad("town 1 16:0 1;", 1, 7);
    }

    private static void stays() {
        TributeLists x = new TributeLists();
        Check.due("fault(0) ahead of any", x.fault(0), -1);
        Check.due("fault(1) ahead of any", x.fault(1), -1);
        Check.tape(x, "town 1:0 5;");
        Check.due("copy(5)", x.copy(5), -1);
        Check.due("copy(-1)", x.copy(-1), -1);
        Check.due("copy(max)", x.copy(Integer.MAX_VALUE), -1);
        Check.due("about(6): the tape stays", x.about(6), 11);
        Check.due("fault(0) ahead of any still", x.fault(0), -1);
        Check.due("copy(4)", x.copy(4), 1);
        Check.due("tells(4, 1, 0)", x.tells(4, 1, 0), 5);
        Check.due("copy(4) with a fault", Check.read(x, 4, "town 1:0 6;town"), -1);
        Check.due("tells(4, 1, 0): the former one stays", x.tells(4, 1, 0), 5);
        Check.due("about(6): a text with a fault is used up", x.about(6), 0);
        Check.due("fault(0)", x.fault(0), 1);
        Check.due("fault(1)", x.fault(1), 15);
        x.copy(5);
        Check.due("fault(1) behind no such copy", x.fault(1), 15);
        Check.due("copy(3) of nothing", x.copy(3), 0);
        Check.due("fault(0)", x.fault(0), 0);
        Check.due("fault(1)", x.fault(1), -1);
    }

    private static void replaced() {
        TributeLists x = new TributeLists();
        Check.read(x, 0, "town 1:0 5,1 6;town 2:0 7;");
        Check.read(x, 1, "town 1:0 50;");
        Check.due("copy(0)", Check.read(x, 0, "town 1:1 8;"), 1);
        Check.due("tells(0, 1, 0)", x.tells(0, 1, 0), -1);
        Check.due("tells(0, 1, 1)", x.tells(0, 1, 1), 8);
        Check.due("tells(0, 2, 0)", x.tells(0, 2, 0), -1);
        Check.due("tells(1, 1, 0)", x.tells(1, 1, 0), 50);
        Check.due("about(7)", x.about(7), 2);
        Check.due("copy(0) of nothing", Check.read(x, 0, ""), 0);
        Check.due("tells(0, 1, 1)", x.tells(0, 1, 1), -1);
        Check.due("about(7)", x.about(7), 2);
    }

    private static void tellsOfOthers() {
        TributeLists x = new TributeLists();
        Check.read(x, 4, "town 15:5 0,0 9999;town 1:0 3;");
        Check.due("tells(4, 15, 5)", x.tells(4, 15, 5), 0);
        Check.due("tells(4, 15, 0)", x.tells(4, 15, 0), 9999);
        Check.due("tells(4, 1, 0)", x.tells(4, 1, 0), 3);
        Check.due("tells(4, 14, 5)", x.tells(4, 14, 5), -1);
        int[][] others = {{5, 1, 0}, {-1, 1, 0}, {4, 0, 0}, {4, 16, 0}, {4, 1, 6}, {4, 1, -1}, {4, 0, 6}, {4, 2, -6}, {0, 1, 0}};
        for (int[] o : others) {
            Check.due("tells(" + o[0] + ", " + o[1] + ", " + o[2] + ")", x.tells(o[0], o[1], o[2]), -1);
        }
    }

    private static void longTexts() {
        TributeLists x = new TributeLists();
        StringBuilder all = new StringBuilder();
        for (int t = 1; t <= 15; t++) {
            all.append("town ").append(t).append(":0 ").append(t).append(",5 7;");
        }
        Check.due("copy(0) of all towns", Check.read(x, 0, all.toString()), 15);
        Check.due("tells(0, 15, 0)", x.tells(0, 15, 0), 15);
        String full = "town 1:0 " + "0".repeat(289) + "9;";
        Check.due("bytes", full.length() <= 300, true);
        Check.due("copy(1) of many digits", Check.read(x, 1, full), 1);
        Check.due("tells(1, 1, 0)", x.tells(1, 1, 0), 9);
        Check.due("copy(1) of a number of 290 digits", Check.read(x, 1, "town 1:0 " + "9".repeat(290) + ";"), -1);
        Check.due("fault(0)", x.fault(0), 3);
        Check.due("copy(1) of 300 tokens", Check.read(x, 1, ";".repeat(300)), -1);
        Check.due("copy(1) without an end", Check.read(x, 1, "town 1:0 5" + " ".repeat(290)), -1);
        Check.due("fault(1)", x.fault(1), 300);
    }
}
