/** Promises 20 (market), 21 (barter) and 22 (bartered). */
public final class MarketsTest {
    public static void main(String[] args) {
        wrongMarkets();
        wrongBarters();
        most();
        fewest();
        firstByNumbers();
        noGoodTwice();
        restIsLost();
        huge();
        latestThatTold();
        Check.finish();
    }

    private static void steps(TributeLists x, int... want) {
        for (int i = 0; i < want.length; i++) {
            Check.due("bartered(" + i + ")", x.bartered(i), want[i]);
        }
        Check.due("bartered(" + want.length + ")", x.bartered(want.length), -1);
        Check.due("bartered(-1)", x.bartered(-1), -1);
    }

    private static void wrongMarkets() {
        TributeLists x = new TributeLists();
        int[][] wrong = {{-1, 1, 0, 1}, {6, 1, 0, 1}, {0, 1, -1, 1}, {0, 1, 6, 1}, {0, 1, 0, 1}, {0, 0, 1, 1}, {0, 100, 1, 1}, {0, 1, 1, 0},
            {0, 1, 1, 100}, {0, -1, 1, 1}, {0, 1, 1, -1}};
        for (int[] w : wrong) {
            Check.due("market(" + w[0] + ", " + w[1] + ", " + w[2] + ", " + w[3] + ")", x.market(w[0], w[1], w[2], w[3]), -1);
        }
        Check.due("about(4)", x.about(4), 0);
        for (int k = 0; k < 20; k++) {
            Check.due("market no. " + k, x.market(k % 6, 1 + k, (k + 1) % 6, 99), k);
        }
        Check.due("market no. 20", x.market(0, 1, 1, 1), -1);
        Check.due("about(4)", x.about(4), 20);
    }

    private static void wrongBarters() {
        TributeLists x = new TributeLists();
        Check.due("bartered(0) ahead of any", x.bartered(0), -1);
        x.market(0, 1, 1, 1);
        int[][] wrong = {{-1, 1, 1}, {6, 1, 1}, {0, 1, -1}, {0, 1, 6}, {0, 1, 0}, {0, 0, 1}, {0, 10000, 1}, {0, -5, 1}, {1, 1, 0}, {0, 1, 2}};
        for (int[] w : wrong) {
            Check.due("barter(" + w[0] + ", " + w[1] + ", " + w[2] + ")", x.barter(w[0], w[1], w[2]), -1);
        }
        Check.due("bartered(0) ahead of any that told", x.bartered(0), -1);
        Check.due("barter(0, 1, 1)", x.barter(0, 1, 1), 1);
        Check.due("barter(0, 9999, 1)", x.barter(0, 9999, 1), 9999);
        steps(x, 0);
        Check.due("bartered(max)", x.bartered(Integer.MAX_VALUE), -1);
        Check.due("bartered(min)", x.bartered(Integer.MIN_VALUE), -1);
    }

    private static void most() {
        TributeLists x = new TributeLists();
        x.market(0, 1, 5, 3);
        x.market(0, 1, 1, 2);
        x.market(1, 1, 5, 2);
        Check.due("barter(0, 10, 5)", x.barter(0, 10, 5), 40);
        steps(x, 1, 2);
        x.market(0, 2, 5, 9);
        Check.due("barter(0, 10, 5)", x.barter(0, 10, 5), 45);
        steps(x, 3);
        Check.due("barter(0, 11, 5)", x.barter(0, 11, 5), 45);
        Check.due("barter(0, 3, 5)", x.barter(0, 3, 5), 12);
        steps(x, 1, 2);
    }

    private static void fewest() {
        TributeLists x = new TributeLists();
        x.market(0, 1, 1, 2);
        x.market(1, 1, 2, 2);
        x.market(2, 1, 3, 1);
        x.market(1, 2, 3, 4);
        x.market(0, 1, 3, 4);
        Check.due("barter(0, 5, 3)", x.barter(0, 5, 3), 20);
        steps(x, 4);
        Check.due("barter(0, 5, 2)", x.barter(0, 5, 2), 20);
        steps(x, 0, 1);
    }

    private static void firstByNumbers() {
        TributeLists x = new TributeLists();
        x.market(2, 1, 5, 1);
        x.market(1, 1, 5, 1);
        x.market(0, 1, 1, 1);
        x.market(0, 1, 2, 1);
        x.market(1, 1, 5, 1);
        x.market(0, 1, 1, 1);
        Check.due("barter(0, 7, 5)", x.barter(0, 7, 5), 7);
        steps(x, 2, 1);
        TributeLists y = new TributeLists();
        y.market(0, 1, 2, 1);
        y.market(0, 1, 1, 1);
        y.market(1, 1, 5, 1);
        y.market(2, 1, 5, 1);
        y.market(2, 1, 5, 1);
        Check.due("barter(0, 7, 5)", y.barter(0, 7, 5), 7);
        steps(y, 0, 3);
    }

    private static void noGoodTwice() {
        TributeLists x = new TributeLists();
        x.market(0, 1, 1, 9);
        x.market(1, 1, 0, 9);
        x.market(1, 1, 2, 1);
        x.market(2, 1, 1, 9);
        Check.due("barter(0, 1, 2)", x.barter(0, 1, 2), 9);
        steps(x, 0, 2);
        Check.due("barter(0, 1, 1)", x.barter(0, 1, 1), 9);
        steps(x, 0);
        Check.due("barter(2, 1, 0)", x.barter(2, 1, 0), 81);
        steps(x, 3, 1);
        Check.due("barter(0, 1, 3)", x.barter(0, 1, 3), -1);
    }

    private static void restIsLost() {
        TributeLists x = new TributeLists();
        x.market(0, 4, 1, 3);
        x.market(1, 5, 2, 7);
        Check.due("barter(0, 11, 2)", x.barter(0, 11, 2), 7);
        Check.due("barter(0, 3, 2) of nothing left", x.barter(0, 3, 2), 0);
        steps(x, 0, 1);
        x.market(0, 99, 2, 1);
        Check.due("barter(0, 3, 2)", x.barter(0, 3, 2), 0);
        steps(x, 2);
    }

    private static void huge() {
        TributeLists x = new TributeLists();
        for (int g = 0; g < 5; g++) {
            x.market(g, 1, g + 1, 99);
        }
        Check.due("barter(0, 9999, 5)", x.barter(0, 9999, 5), 1000000000);
        steps(x, 0, 1, 2, 3, 4);
        x.market(0, 1, 5, 99);
        x.market(2, 1, 5, 99);
        Check.due("barter(0, 9999, 5)", x.barter(0, 9999, 5), 1000000000);
        // Two barters above 1000000000: the one that has most is the best, not the shorter one.
        steps(x, 0, 1, 2, 3, 4);
        Check.due("barter(0, 1, 4)", x.barter(0, 1, 4), 96059601);
        Check.due("barter(0, 10, 4)", x.barter(0, 10, 4), 960596010);
        Check.due("barter(0, 11, 4)", x.barter(0, 11, 4), 1000000000);
    }

    private static void latestThatTold() {
        TributeLists x = new TributeLists();
        x.market(0, 1, 1, 1);
        x.market(1, 1, 2, 1);
        x.barter(0, 5, 2);
        x.barter(2, 5, 0);
        x.barter(0, 0, 1);
        x.barter(0, 5, 0);
        steps(x, 0, 1);
        x.barter(1, 5, 2);
        steps(x, 1);
        x.market(1, 1, 2, 50);
        steps(x, 1);
    }
}
