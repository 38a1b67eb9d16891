/** Promises 23 (yields) and 24 (parted). */
public final class PartedTest {
    public static void main(String[] args) {
        wrongYields();
        wrongParts();
        cutOff();
        likeOnes();
        largest();
        Check.finish();
    }

    private static void parts(TributeLists x, int sum, int... want) {
        for (int t = 1; t <= want.length; t++) {
            Check.due("parted(" + sum + ", " + t + ")", x.parted(sum, t), want[t - 1]);
        }
    }

    private static void wrongYields() {
        TributeLists x = new TributeLists();
        Check.due("yields(0, 1)", x.yields(0, 1), false);
        Check.due("yields(16, 1)", x.yields(16, 1), false);
        Check.due("yields(-1, 1)", x.yields(-1, 1), false);
        Check.due("yields(1, -1)", x.yields(1, -1), false);
        Check.due("yields(1, 10001)", x.yields(1, 10001), false);
        Check.due("parted(1, 1) of no yields", x.parted(1, 1), -1);
        Check.due("yields(1, 10000)", x.yields(1, 10000), true);
        Check.due("yields(15, 0)", x.yields(15, 0), true);
        Check.due("parted(1, 1)", x.parted(1, 1), 1);
        Check.due("yields(1, 0)", x.yields(1, 0), true);
        Check.due("parted(1, 1) of no yields again", x.parted(1, 1), -1);
        Check.due("parted(0, 1) of no yields", x.parted(0, 1), -1);
    }

    private static void wrongParts() {
        TributeLists x = new TributeLists();
        x.yields(15, 3);
        int[][] wrong = {{-1, 15}, {100001, 15}, {1, 0}, {1, 16}, {1, -1}, {Integer.MIN_VALUE, 1}, {1, Integer.MAX_VALUE}};
        for (int[] w : wrong) {
            Check.due("parted(" + w[0] + ", " + w[1] + ")", x.parted(w[0], w[1]), -1);
        }
        Check.due("parted(0, 15)", x.parted(0, 15), 0);
        Check.due("parted(100000, 15)", x.parted(100000, 15), 100000);
        Check.due("parted(100000, 1)", x.parted(100000, 1), 0);
    }

    private static void cutOff() {
        TributeLists x = new TributeLists();
        x.yields(1, 1);
        x.yields(2, 3);
        x.yields(3, 4);
        // 10 of 8: 1.25, 3.75, 5.
        parts(x, 10, 1, 4, 5, 0);
        // 3 of 8: 0.375, 1.125, 1.5.
        parts(x, 3, 0, 1, 2, 0);
        // 7 of 8: 0.875, 2.625, 3.5.
        parts(x, 7, 1, 3, 3, 0);
        parts(x, 8, 1, 3, 4, 0);
    }

    private static void likeOnes() {
        TributeLists x = new TributeLists();
        for (int t = 1; t <= 15; t++) {
            x.yields(t, 7);
        }
        parts(x, 3, 1, 1, 1, 0, 0, 0, 0, 0, 0, 0, 0, 0, 0, 0, 0);
        parts(x, 29, 2, 2, 2, 2, 2, 2, 2, 2, 2, 2, 2, 2, 2, 2, 1);
        x.yields(1, 0);
        parts(x, 13, 0, 1, 1, 1, 1, 1, 1, 1, 1, 1, 1, 1, 1, 1, 0);
    }

    private static void largest() {
        TributeLists x = new TributeLists();
        for (int t = 1; t <= 15; t++) {
            x.yields(t, 10000);
        }
        int sum = 0;
        for (int t = 1; t <= 15; t++) {
            Check.due("parted(100000, " + t + ")", x.parted(100000, t), t <= 10 ? 6667 : 6666);
            sum += x.parted(99999, t);
        }
        Check.due("the parts together", sum, 99999);
    }
}
