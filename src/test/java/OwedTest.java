/** Promises 11 (owed), 12 (quarrel) and 13 (quarrels). */
public final class OwedTest {
    public static void main(String[] args) {
        others();
        most();
        likeOnes();
        quarrelling();
        Check.finish();
    }

    private static void others() {
        TributeLists x = new TributeLists();
        int[][] wrong = {{0, 0}, {16, 0}, {-1, 0}, {1, 6}, {1, -1}, {0, 6}, {2, -6}, {Integer.MAX_VALUE, 0}};
        for (int[] w : wrong) {
            Check.due("owed(" + w[0] + ", " + w[1] + ")", x.owed(w[0], w[1]), -1);
            Check.due("quarrel(" + w[0] + ", " + w[1] + ")", x.quarrel(w[0], w[1]), -1);
        }
        Check.due("owed(1, 0) without copies", x.owed(1, 0), 0);
        Check.due("quarrel(15, 5) without copies", x.quarrel(15, 5), 0);
        Check.due("quarrels() without copies", x.quarrels(), 0);
    }

    private static void most() {
        TributeLists x = new TributeLists();
        Check.read(x, 0, "town 1:0 5,1 0;");
        Check.read(x, 1, "town 1:0 5;");
        Check.read(x, 2, "town 1:0 9;town 15:5 3;");
        Check.due("owed(1, 0)", x.owed(1, 0), 5);
        Check.due("owed(1, 1) told as 0", x.owed(1, 1), 0);
        Check.due("owed(15, 5)", x.owed(15, 5), 3);
        Check.read(x, 3, "town 1:0 9;");
        Check.read(x, 4, "town 1:0 9;");
        Check.due("owed(1, 0) of three against two", x.owed(1, 0), 9);
        Check.read(x, 4, "town 1:0 0;");
        Check.due("owed(1, 0) of two against two and one", x.owed(1, 0), 9);
        Check.read(x, 1, "town 1:0 5;");
        Check.due("owed(1, 0) as one is read again", x.owed(1, 0), 5);
        Check.read(x, 2, "");
        Check.read(x, 3, "town 1:0 0;");
        Check.due("owed(1, 0) as 0 is told by two, later", x.owed(1, 0), 0);
    }

    private static void likeOnes() {
        TributeLists x = new TributeLists();
        Check.read(x, 4, "town 1:0 1;");
        Check.read(x, 2, "town 1:0 2;");
        Check.read(x, 3, "town 1:0 3;");
        Check.due("owed(1, 0): the latest by reading", x.owed(1, 0), 3);
        Check.read(x, 4, "town 1:0 1;");
        Check.due("owed(1, 0): the latest by reading again", x.owed(1, 0), 1);
        Check.read(x, 2, "town 1:0 2;town");
        Check.due("owed(1, 0): a text with a fault wasn't read", x.owed(1, 0), 1);
        Check.read(x, 0, "town 2:0 7;");
        Check.due("owed(1, 0): the latest tells nothing of it", x.owed(1, 0), 1);
        Check.read(x, 1, "town 1:0 2;");
        Check.read(x, 0, "town 1:0 3;");
        Check.read(x, 4, "town 1:0 4;");
        Check.due("owed(1, 0): the latest of the like ones", x.owed(1, 0), 3);
        Check.read(x, 2, "town 1:0 2;");
        Check.due("owed(1, 0)", x.owed(1, 0), 2);
    }

    private static void quarrelling() {
        TributeLists x = new TributeLists();
        Check.read(x, 0, "town 1:0 5,1 0;town 15:5 1;");
        Check.read(x, 3, "town 1:0 5;town 15:5 2;town 2:0 4;");
        Check.due("quarrel(1, 0)", x.quarrel(1, 0), 0);
        Check.due("quarrel(1, 1): nothing is no number", x.quarrel(1, 1), 0);
        Check.due("quarrel(15, 5)", x.quarrel(15, 5), 1);
        Check.due("quarrels()", x.quarrels(), 1);
        Check.read(x, 4, "town 1:0 0,1 1;");
        Check.due("quarrel(1, 0): 0 is a number", x.quarrel(1, 0), 1);
        Check.due("quarrel(1, 1)", x.quarrel(1, 1), 1);
        Check.due("quarrels()", x.quarrels(), 3);
        Check.read(x, 3, "");
        Check.due("quarrel(15, 5)", x.quarrel(15, 5), 0);
        Check.due("quarrels()", x.quarrels(), 2);
    }
}
