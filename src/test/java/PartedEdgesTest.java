/** A test for each sentence on the bounds of YIELDS and PARTED (promises 23 and 24). */
public final class PartedEdgesTest {
    public static void main(String[] args) {
        atFirst();
        townsOfYields();
        boundsOfYields();
        townsOfParted();
        sumsOfParted();
        allZero();
        leastYield();
        cut();
        mostCutOff();
        lowestOfLikeOnes();
        nothingWithoutYield();
        largest();
        together();
        Check.finish();
    }

    private static void parts(TributeLists x, int sum, int... want) {
        for (int t = 1; t <= 15; t++) {
            Check.due("parted(" + sum + ", " + t + ")", x.parted(sum, t), t <= want.length ? want[t - 1] : 0);
        }
    }

    private static TributeLists yielding(int... yields) {
        TributeLists x = new TributeLists();
        for (int t = 1; t <= yields.length; t++) {
            Check.due("yields(" + t + ", " + yields[t - 1] + ")", x.yields(t, yields[t - 1]), true);
        }
        return x;
    }

    private static void atFirst() {
        Check.sentence("YIELDS at first 0");
        for (int t = 1; t <= 15; t++) {
            TributeLists x = new TributeLists();
            x.yields(t, 7);
            for (int p = 1; p <= 15; p++) {
                Check.due("parted(1000, " + p + ")", x.parted(1000, p), p == t ? 1000 : 0);
            }
        }
    }

    private static void townsOfYields() {
        Check.sentence("yields: false for others: TOWNS 1 .. 15");
        TributeLists x = new TributeLists();
        Check.due("yields(0, 5): the city is none", x.yields(0, 5), false);
        Check.dueForAll("yields(*, 5)", Check.beyond(1, 15), 0, v -> x.yields(v, 5) ? 1 : 0);
        Check.due("parted(1, 1): none was taken", x.parted(1, 1), -1);
        Check.due("yields(1, 5)", x.yields(1, 5), true);
        Check.due("yields(15, 5)", x.yields(15, 5), true);
        parts(x, 10, 5, 0, 0, 0, 0, 0, 0, 0, 0, 0, 0, 0, 0, 0, 5);
    }

    private static void boundsOfYields() {
        Check.sentence("YIELDS (0 .. 10000 each)");
        TributeLists x = yielding(1, 3);
        for (int v : Check.beyond(0, 10000)) {
            Check.due("yields(1, " + v + ")", x.yields(1, v), false);
            Check.due("parted(4, 1): the former one stays", x.parted(4, 1), 1);
        }
        Check.due("yields(1, 10000)", x.yields(1, 10000), true);
        Check.due("parted(10003, 1)", x.parted(10003, 1), 10000);
        Check.due("yields(1, 0)", x.yields(1, 0), true);
        Check.due("parted(10003, 1)", x.parted(10003, 1), 0);
        Check.due("parted(10003, 2)", x.parted(10003, 2), 10003);
    }

    private static void townsOfParted() {
        Check.sentence("parted: NONE for others: TOWNS 1 .. 15");
        TributeLists x = new TributeLists();
        x.yields(1, 1);
        x.yields(15, 1);
        Check.due("parted(10, 1)", x.parted(10, 1), 5);
        Check.due("parted(10, 15)", x.parted(10, 15), 5);
        Check.due("parted(10, 0): the city is none", x.parted(10, 0), -1);
        Check.dueForAll("parted(10, *)", Check.beyond(1, 15), -1, v -> x.parted(10, v));
        Check.dueForAll("parted(0, *)", Check.beyond(1, 15), -1, v -> x.parted(0, v));
    }

    private static void sumsOfParted() {
        Check.sentence("PARTED: a sum (0 .. 100000); parted: NONE for others");
        TributeLists x = yielding(1, 2, 1);
        parts(x, 0, 0, 0, 0);
        parts(x, 1, 0, 1, 0);
        // 24999.75, 49999.5, 24999.75.
        parts(x, 99999, 25000, 49999, 25000);
        parts(x, 100000, 25000, 50000, 25000);
        for (int t : new int[] {1, 2, 3, 15}) {
            Check.dueForAll("parted(*, " + t + ")", Check.beyond(0, 100000), -1, v -> x.parted(v, t));
        }
        Check.due("parted(-2, 2)", x.parted(-2, 2), -1);
        Check.due("parted(-4, 2)", x.parted(-4, 2), -1);
        Check.due("parted(-100000, 3)", x.parted(-100000, 3), -1);
    }

    private static void allZero() {
        Check.sentence("PARTED: NONE, if all YIELDS are 0");
        TributeLists x = new TributeLists();
        for (int sum : new int[] {0, 1, 100000}) {
            for (int t = 1; t <= 15; t++) {
                Check.due("parted(" + sum + ", " + t + ") at first", x.parted(sum, t), -1);
            }
        }
        x.yields(15, 1);
        Check.due("parted(5, 1)", x.parted(5, 1), 0);
        x.yields(15, 0);
        Check.due("parted(5, 1) of none again", x.parted(5, 1), -1);
        Check.due("parted(0, 15) of none again", x.parted(0, 15), -1);
    }

    private static void leastYield() {
        Check.sentence("PARTED: all YIELDS together are 1");
        TributeLists x = yielding(0, 1);
        parts(x, 0, 0, 0);
        parts(x, 1, 0, 1);
        parts(x, 100000, 0, 100000);
    }

    private static void cut() {
        Check.sentence("sum * YIELD / all YIELDS, cut");
        parts(yielding(1, 1), 10, 5, 5);
        parts(yielding(1, 9999), 10000, 1, 9999);
        parts(yielding(1, 9999), 9999, 1, 9998);
        parts(yielding(1, 9999), 4999, 0, 4999);
        parts(yielding(1, 9999), 5000, 1, 4999);
        parts(yielding(1, 9999), 5001, 1, 5000);
    }

    private static void mostCutOff() {
        Check.sentence("what is left, one by one, to those of which most was cut off");
        // 1 of 10: 0.1, 0.2, 0.3, 0.4.
        parts(yielding(1, 2, 3, 4), 1, 0, 0, 0, 1);
        // 3 of 10: 0.3, 0.6, 0.9, 1.2.
        parts(yielding(1, 2, 3, 4), 3, 0, 1, 1, 1);
        // 7 of 10: 0.7, 1.4, 2.1, 2.8.
        parts(yielding(1, 2, 3, 4), 7, 1, 1, 2, 3);
        // 9 of 10: 0.9, 1.8, 2.7, 3.6: three are left.
        parts(yielding(1, 2, 3, 4), 9, 1, 2, 3, 3);
        // 10 of 10: none is left.
        parts(yielding(1, 2, 3, 4), 10, 1, 2, 3, 4);
    }

    private static void lowestOfLikeOnes() {
        Check.sentence("of like ones the lowest");
        TributeLists x = yielding(5, 5, 5, 5, 5, 5, 5, 5, 5, 5, 5, 5, 5, 5, 5);
        for (int sum : new int[] {1, 2, 7, 13, 14, 15, 16, 29, 30}) {
            for (int t = 1; t <= 15; t++) {
                Check.due("parted(" + sum + ", " + t + ")", x.parted(sum, t), sum / 15 + (t <= sum % 15 ? 1 : 0));
            }
        }
        // 2 of 8: 0.5, 0.25, 0.5, 0.5, 0.25.
        parts(yielding(2, 1, 2, 2, 1), 2, 1, 0, 1, 0, 0);
        // 5 of 10: 0.5 and 4.5, like ones of other YIELDS.
        parts(yielding(1, 9), 5, 1, 4);
        parts(yielding(9, 1), 5, 5, 0);
    }

    private static void nothingWithoutYield() {
        Check.sentence("a TOWN of which nothing was cut off gets none of what is left");
        // 2 of 3: 0.667 each of three.
        parts(yielding(0, 1, 0, 1, 0, 1), 2, 0, 1, 0, 1, 0, 0);
        // 3 of 6: 1.5, 0, 1, 0.5.
        parts(yielding(3, 0, 2, 1), 3, 2, 0, 1, 0);
    }

    private static void largest() {
        Check.sentence("PARTED of the largest sum and YIELDS");
        int[] yields = new int[15];
        java.util.Arrays.fill(yields, 10000);
        TributeLists x = yielding(yields);
        for (int t = 1; t <= 15; t++) {
            Check.due("parted(100000, " + t + ")", x.parted(100000, t), t <= 10 ? 6667 : 6666);
        }
        parts(yielding(10000), 100000, 100000);
        parts(yielding(10000, 9999), 100000, 50003, 49997);
    }

    private static void together() {
        Check.sentence("a sum over the TOWNS: all parts together are the sum");
        TributeLists x = yielding(10000, 1, 9999, 0, 7777, 3, 3, 3, 4999, 5001, 17, 0, 123, 8191, 4096);
        for (int sum : new int[] {0, 1, 2, 3, 7, 14, 15, 16, 100, 4097, 65535, 65536, 99999, 100000}) {
            int all = 0;
            for (int t = 1; t <= 15; t++) {
                all += x.parted(sum, t);
            }
            Check.due("the parts of " + sum, all, sum);
        }
    }
}
