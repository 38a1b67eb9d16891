/** A test for each sentence on the bounds of OWED and QUARRELS (promises 11, 12 and 13). */
public final class OwedEdgesTest {
    public static void main(String[] args) {
        othersOfOwed();
        zeroIfNoneTells();
        mostTell();
        likeOnes();
        readAgain();
        manyReadings();
        othersOfQuarrel();
        twoThatDiffer();
        nothingIsNoNumber();
        allTogether();
        Check.finish();
    }

    private static void othersOfOwed() {
        Check.sentence("owed: NONE for others");
        TributeLists x = new TributeLists();
        Check.read(x, 0, "town 1:0 5,5 6;town 15:0 7,5 8;");
        Check.due("owed(1, 0)", x.owed(1, 0), 5);
        Check.due("owed(1, 5)", x.owed(1, 5), 6);
        Check.due("owed(15, 0)", x.owed(15, 0), 7);
        Check.due("owed(15, 5)", x.owed(15, 5), 8);
        Check.dueForAll("owed(*, 0)", Check.beyond(1, 15), -1, v -> x.owed(v, 0));
        Check.dueForAll("owed(*, 5)", Check.beyond(1, 15), -1, v -> x.owed(v, 5));
        Check.dueForAll("owed(1, *)", Check.beyond(0, 5), -1, v -> x.owed(1, v));
        Check.dueForAll("owed(15, *)", Check.beyond(0, 5), -1, v -> x.owed(15, v));
    }

    private static void zeroIfNoneTells() {
        Check.sentence("OWED: 0 if none tells of it");
        TributeLists x = new TributeLists();
        Check.due("owed(1, 0) without COPIES", x.owed(1, 0), 0);
        for (int c = 0; c < 5; c++) {
            Check.read(x, c, "town 2:1 5;");
        }
        Check.due("owed(1, 0)", x.owed(1, 0), 0);
        Check.due("owed(1, 1)", x.owed(1, 1), 0);
        Check.due("owed(2, 0)", x.owed(2, 0), 0);
        Check.due("owed(2, 1)", x.owed(2, 1), 5);
        for (int c = 0; c < 5; c++) {
            x.copy(c);
        }
        Check.due("owed(2, 1) as none tells any more", x.owed(2, 1), 0);
    }

    private static TributeLists copies(int... told) {
        TributeLists x = new TributeLists();
        for (int c = 0; c < told.length; c++) {
            if (told[c] >= 0) {
                Check.read(x, c, "town 1:0 " + told[c] + ";");
            }
        }
        return x;
    }

    private static void mostTell() {
        Check.sentence("OWED: the number that most COPIES tell");
        Check.due("owed of 5", copies(5).owed(1, 0), 5);
        Check.due("owed of - - - - 9999", copies(-1, -1, -1, -1, 9999).owed(1, 0), 9999);
        Check.due("owed of 5 5 6", copies(5, 5, 6).owed(1, 0), 5);
        Check.due("owed of 6 5 5", copies(6, 5, 5).owed(1, 0), 5);
        Check.due("owed of 5 5 6 6 6", copies(5, 5, 6, 6, 6).owed(1, 0), 6);
        Check.due("owed of 5 5 5 6 6", copies(5, 5, 5, 6, 6).owed(1, 0), 5);
        Check.due("owed of 5 6 5 7 8", copies(5, 6, 5, 7, 8).owed(1, 0), 5);
        Check.due("owed of 5 5 5 5 5", copies(5, 5, 5, 5, 5).owed(1, 0), 5);
        Check.due("owed of 0 0 9: 0 is a number", copies(0, 0, 9).owed(1, 0), 0);
        Check.due("owed of 9 9 - - 0: nothing is none", copies(9, 9, -1, -1, 0).owed(1, 0), 9);
        Check.due("owed of 9 - - - -: nothing is none", copies(9, -1, -1, -1, -1).owed(1, 0), 9);
    }

    private static void likeOnes() {
        Check.sentence("OWED: of like ones the one told by the COPY that was read latest");
        Check.due("owed of 5 6", copies(5, 6).owed(1, 0), 6);
        Check.due("owed of 6 5", copies(6, 5).owed(1, 0), 5);
        Check.due("owed of 9 0", copies(9, 0).owed(1, 0), 0);
        Check.due("owed of 1 2 3 4 5", copies(1, 2, 3, 4, 5).owed(1, 0), 5);
        Check.due("owed of 5 4 3 2 1", copies(5, 4, 3, 2, 1).owed(1, 0), 1);
        Check.due("owed of 5 5 6 6", copies(5, 5, 6, 6).owed(1, 0), 6);
        Check.due("owed of 5 6 6 5", copies(5, 6, 6, 5).owed(1, 0), 5);
        Check.due("owed of 5 6 5 6 7: the latest isn't of the like ones", copies(5, 6, 5, 6, 7).owed(1, 0), 6);
        Check.due("owed of 6 5 7 6 5", copies(6, 5, 7, 6, 5).owed(1, 0), 5);
        TributeLists x = new TributeLists();
        for (int c = 4; c >= 0; c--) {
            Check.read(x, c, "town 1:0 " + c + ";");
        }
        Check.due("owed: read from the last COPY to the first", x.owed(1, 0), 0);
        Check.read(x, 0, "town 2:0 1;");
        Check.due("owed: the latest tells nothing of it now", x.owed(1, 0), 1);
    }

    private static void readAgain() {
        Check.sentence("OWED: the COPY that was read latest, the same text again too");
        TributeLists x = copies(5, 6, 5, 6);
        Check.due("owed", x.owed(1, 0), 6);
        Check.read(x, 0, "town 1:0 5;");
        Check.due("owed as COPY 0 is read again", x.owed(1, 0), 5);
        Check.read(x, 3, "town 1:0 6;town");
        Check.due("owed as a text has a FAULT", x.owed(1, 0), 5);
        Check.tape(x, "town 1:0 6;");
        x.copy(5);
        Check.due("owed as there is no such COPY", x.owed(1, 0), 5);
        x.copy(1);
        Check.due("owed as COPY 1 is read again", x.owed(1, 0), 6);
    }

    private static void manyReadings() {
        Check.sentence("OWED: the COPY that was read latest, of as many readings as an object has");
        TributeLists x = copies(5, 6);
        int read = 2;
        // Around each of these a number that is too narrow for all readings would begin anew.
        for (int many : new int[] {128, 256}) {
            for (; read < many - 4; read++) {
                x.copy(2 + read % 3);
            }
            for (; read < many + 4; read++) {
                Check.read(x, read % 2, "town 1:0 " + (5 + read % 2) + ";");
                Check.due("owed behind " + (read + 1) + " readings", x.owed(1, 0), 5 + read % 2);
            }
        }
        Check.due("about(7)", x.about(7), 5);
    }

    private static void othersOfQuarrel() {
        Check.sentence("quarrel: NONE for others");
        TributeLists x = new TributeLists();
        Check.read(x, 0, "town 1:0 5,5 6;town 15:0 7,5 8;");
        Check.read(x, 1, "town 1:0 6,5 7;town 15:0 8,5 9;");
        Check.due("quarrel(1, 0)", x.quarrel(1, 0), 1);
        Check.due("quarrel(1, 5)", x.quarrel(1, 5), 1);
        Check.due("quarrel(15, 0)", x.quarrel(15, 0), 1);
        Check.due("quarrel(15, 5)", x.quarrel(15, 5), 1);
        Check.dueForAll("quarrel(*, 0)", Check.beyond(1, 15), -1, v -> x.quarrel(v, 0));
        Check.dueForAll("quarrel(*, 5)", Check.beyond(1, 15), -1, v -> x.quarrel(v, 5));
        Check.dueForAll("quarrel(1, *)", Check.beyond(0, 5), -1, v -> x.quarrel(1, v));
        Check.dueForAll("quarrel(15, *)", Check.beyond(0, 5), -1, v -> x.quarrel(15, v));
    }

    private static void twoThatDiffer() {
        Check.sentence("they QUARREL if two tell numbers that differ");
        Check.due("quarrel of none", copies().quarrel(1, 0), 0);
        Check.due("quarrel of one", copies(5).quarrel(1, 0), 0);
        Check.due("quarrel of 5 5", copies(5, 5).quarrel(1, 0), 0);
        Check.due("quarrel of 5 5 5 5 5", copies(5, 5, 5, 5, 5).quarrel(1, 0), 0);
        Check.due("quarrel of 0 0", copies(0, 0).quarrel(1, 0), 0);
        for (int a = 0; a < 5; a++) {
            for (int b = 0; b < 5; b++) {
                int[] told = {-1, -1, -1, -1, -1};
                told[a] = 5;
                told[b] = 6;
                Check.due("quarrel of COPIES " + a + " and " + b, copies(told).quarrel(1, 0), a == b ? 0 : 1);
                int[] five = {5, 5, 5, 5, 5};
                five[b] = 6;
                Check.due("quarrel of COPY " + b + " with the others", copies(five).quarrel(1, 0), 1);
            }
        }
    }

    private static void nothingIsNoNumber() {
        Check.sentence("they QUARREL if two tell numbers: 0 is one, nothing is none");
        Check.due("quarrel of 5 and nothing", copies(5, -1).quarrel(1, 0), 0);
        Check.due("quarrel of nothing and 5", copies(-1, 5).quarrel(1, 0), 0);
        Check.due("quarrel of 0 and nothing", copies(0, -1).quarrel(1, 0), 0);
        Check.due("quarrel of 0 and 1", copies(0, 1).quarrel(1, 0), 1);
        Check.due("quarrel of 9999 and 0", copies(9999, 0).quarrel(1, 0), 1);
        TributeLists x = copies(5, 6);
        x.copy(0);
        Check.due("quarrel as one tells nothing any more", x.quarrel(1, 0), 0);
    }

    private static String fullLines(int first, int last, int pieces) {
        StringBuilder s = new StringBuilder();
        for (int t = first; t <= last; t++) {
            s.append("town").append(t);
            for (int g = 0; g < 6; g++) {
                s.append(g == 0 ? ":" : ",").append(g).append(' ').append(pieces);
            }
            s.append(';');
        }
        return s.toString();
    }

    private static void allTogether() {
        Check.sentence("quarrels: how many TOWNS and GOODS they QUARREL of, all together");
        TributeLists x = new TributeLists();
        Check.due("quarrels() without COPIES", x.quarrels(), 0);
        Check.read(x, 0, fullLines(1, 8, 1));
        Check.read(x, 1, fullLines(9, 15, 1));
        Check.due("quarrels() of COPIES that tell of other TOWNS", x.quarrels(), 0);
        Check.read(x, 2, "town 1:0 2;");
        Check.due("quarrels() of the first TOWN and GOOD", x.quarrels(), 1);
        Check.read(x, 2, "town 15:5 2;");
        Check.due("quarrels() of the last TOWN and GOOD", x.quarrels(), 1);
        Check.read(x, 2, fullLines(1, 8, 2));
        Check.due("quarrels() of eight TOWNS", x.quarrels(), 48);
        Check.read(x, 3, fullLines(9, 15, 2));
        Check.due("quarrels() of every TOWN and GOOD", x.quarrels(), 90);
        Check.read(x, 4, fullLines(1, 8, 3));
        Check.due("quarrels(): three that differ are one QUARREL", x.quarrels(), 90);
    }
}
