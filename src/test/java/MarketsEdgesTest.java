/** A test for each sentence on the bounds of MARKETS and BARTERS (promises 20, 21 and 22). */
public final class MarketsEdgesTest {
    public static void main(String[] args) {
        goodsOfMarkets();
        amountsOfMarkets();
        ofAnotherGood();
        twenty();
        refusedTakesNoNumber();
        piecesOfBarters();
        goodsOfBarters();
        sameGood();
        noWay();
        cutAndLost();
        nothingLeft();
        noGoodTwice();
        neverBackToTheFirst();
        throughAllGoods();
        allMarkets();
        most();
        fewest();
        firstByNumbers();
        largestTold();
        largestOfAll();
        aheadOfAny();
        othersOfBartered();
        latestThatTold();
        Check.finish();
    }

    private static void steps(TributeLists x, int... want) {
        for (int i = 0; i < want.length; i++) {
            Check.due("bartered(" + i + ")", x.bartered(i), want[i]);
        }
        for (int i = want.length; i < 7; i++) {
            Check.due("bartered(" + i + ")", x.bartered(i), -1);
        }
    }

    private static void barter(TributeLists x, int from, int n, int to, int want) {
        Check.due("barter(" + from + ", " + n + ", " + to + ")", x.barter(from, n, to), want);
    }

    private static void goodsOfMarkets() {
        Check.sentence("market: NONE for others: GOODS 0 .. 5");
        TributeLists x = new TributeLists();
        Check.due("market(0, 1, 5, 1)", x.market(0, 1, 5, 1), 0);
        Check.due("market(5, 1, 0, 1)", x.market(5, 1, 0, 1), 1);
        Check.dueForAll("market(*, 1, 0, 1)", Check.beyond(0, 5), -1, v -> x.market(v, 1, 0, 1));
        Check.dueForAll("market(5, 1, *, 1)", Check.beyond(0, 5), -1, v -> x.market(5, 1, v, 1));
        Check.due("about(4)", x.about(4), 2);
    }

    private static void amountsOfMarkets() {
        Check.sentence("a of a GOOD for b of another one (1 .. 99 each)");
        TributeLists x = new TributeLists();
        Check.due("market(0, 1, 1, 99)", x.market(0, 1, 1, 99), 0);
        Check.due("market(1, 99, 0, 1)", x.market(1, 99, 0, 1), 1);
        Check.due("market(2, 1, 3, 1)", x.market(2, 1, 3, 1), 2);
        Check.due("market(3, 99, 2, 99)", x.market(3, 99, 2, 99), 3);
        Check.dueForAll("market(4, *, 5, 1)", Check.beyond(1, 99), -1, v -> x.market(4, v, 5, 1));
        Check.dueForAll("market(4, 1, 5, *)", Check.beyond(1, 99), -1, v -> x.market(4, 1, 5, v));
        Check.due("about(4)", x.about(4), 4);
        barter(x, 0, 7, 1, 693);
        barter(x, 1, 98, 0, 0);
        barter(x, 1, 99, 0, 1);
        barter(x, 2, 9999, 3, 9999);
        barter(x, 3, 197, 2, 99);
        barter(x, 4, 9999, 5, -1);
    }

    private static void ofAnotherGood() {
        Check.sentence("market: of another GOOD");
        TributeLists x = new TributeLists();
        for (int g = 0; g < 6; g++) {
            Check.due("market(" + g + ", 1, " + g + ", 1)", x.market(g, 1, g, 1), -1);
        }
        Check.due("about(4)", x.about(4), 0);
    }

    private static void twenty() {
        Check.sentence("MARKETS (up to 20); market: NONE if there are 20");
        TributeLists x = new TributeLists();
        for (int k = 0; k < 20; k++) {
            Check.due("about(4)", x.about(4), k);
            Check.due("market no. " + k, x.market(0, 20 - k, 1, 1), k);
        }
        Check.due("market(0, 1, 1, 99) with 20", x.market(0, 1, 1, 99), -1);
        Check.due("market(5, 1, 4, 1) with 20", x.market(5, 1, 4, 1), -1);
        Check.due("about(4)", x.about(4), 20);
        barter(x, 0, 20, 1, 20);
        steps(x, 19);
        barter(x, 5, 1, 4, -1);
    }

    private static void refusedTakesNoNumber() {
        Check.sentence("market: its number; one that is refused takes none");
        TributeLists x = new TributeLists();
        x.market(0, 0, 1, 1);
        Check.due("market(0, 1, 1, 1)", x.market(0, 1, 1, 1), 0);
        x.market(6, 1, 1, 1);
        x.market(1, 1, 1, 1);
        Check.due("market(0, 1, 1, 1): a like one is another", x.market(0, 1, 1, 1), 1);
        Check.due("about(4)", x.about(4), 2);
    }

    private static void piecesOfBarters() {
        Check.sentence("barter: n pieces (1 .. 9999), NONE: others");
        TributeLists x = new TributeLists();
        x.market(0, 1, 1, 2);
        barter(x, 0, 1, 1, 2);
        barter(x, 0, 9999, 1, 19998);
        Check.dueForAll("barter(0, *, 1)", Check.beyond(1, 9999), -1, v -> x.barter(0, v, 1));
        barter(x, 0, 0, 1, -1);
        steps(x, 0);
    }

    private static void goodsOfBarters() {
        Check.sentence("barter: NONE: others: GOODS 0 .. 5");
        TributeLists x = new TributeLists();
        for (int g = 0; g < 6; g++) {
            x.market(g, 1, (g + 1) % 6, 1);
        }
        barter(x, 0, 3, 5, 3);
        barter(x, 5, 3, 0, 3);
        Check.dueForAll("barter(*, 3, 0)", Check.beyond(0, 5), -1, v -> x.barter(v, 3, 0));
        Check.dueForAll("barter(0, 3, *)", Check.beyond(0, 5), -1, v -> x.barter(0, 3, v));
        Check.dueForAll("barter(*, 3, *)", Check.beyond(0, 5), -1, v -> x.barter(v, 3, v));
        steps(x, 5);
    }

    private static void sameGood() {
        Check.sentence("barter: NONE: the same GOOD");
        TributeLists x = new TributeLists();
        for (int g = 0; g < 6; g++) {
            x.market(g, 1, (g + 1) % 6, 2);
        }
        for (int g = 0; g < 6; g++) {
            barter(x, g, 3, g, -1);
        }
        Check.due("bartered(0)", x.bartered(0), -1);
    }

    private static void noWay() {
        Check.sentence("barter: NONE: there is no way");
        TributeLists x = new TributeLists();
        barter(x, 0, 1, 1, -1);
        barter(x, 5, 9999, 0, -1);
        x.market(0, 1, 1, 1);
        x.market(2, 1, 3, 1);
        barter(x, 1, 1, 0, -1);
        barter(x, 0, 1, 3, -1);
        barter(x, 0, 1, 2, -1);
        barter(x, 0, 1, 1, 1);
        x.market(1, 1, 2, 1);
        barter(x, 0, 1, 3, 1);
        steps(x, 0, 2, 1);
    }

    private static void cutAndLost() {
        Check.sentence("n / a times a are given (cut; the rest is lost), b for each");
        TributeLists x = new TributeLists();
        x.market(0, 10, 1, 3);
        x.market(1, 2, 2, 5);
        int[][] want = {{9, 0}, {10, 3}, {19, 3}, {20, 6}, {29, 6}, {9999, 2997}};
        for (int[] w : want) {
            barter(x, 0, w[0], 1, w[1]);
        }
        barter(x, 0, 19, 2, 5);
        barter(x, 0, 20, 2, 15);
        barter(x, 0, 39, 2, 20);
    }

    private static void nothingLeft() {
        Check.sentence("barter: 0 is a number too");
        TributeLists x = new TributeLists();
        x.market(0, 99, 1, 99);
        x.market(1, 1, 2, 99);
        barter(x, 0, 98, 1, 0);
        steps(x, 0);
        barter(x, 0, 98, 2, 0);
        steps(x, 0, 1);
        x.market(0, 99, 2, 1);
        barter(x, 0, 98, 2, 0);
        steps(x, 2);
    }

    private static void noGoodTwice() {
        Check.sentence("by MARKETS, one behind the other, no GOOD twice");
        TributeLists x = new TributeLists();
        x.market(0, 1, 1, 1);
        x.market(1, 1, 2, 9);
        x.market(2, 1, 1, 9);
        x.market(1, 1, 3, 1);
        // 0 1 2 1 3 would be 81.
        barter(x, 0, 1, 3, 1);
        steps(x, 0, 3);
        barter(x, 2, 1, 3, 9);
        steps(x, 2, 3);
    }

    private static void neverBackToTheFirst() {
        Check.sentence("no GOOD twice: nor the one that is given, nor the one that is asked for");
        TributeLists x = new TributeLists();
        x.market(0, 1, 1, 9);
        x.market(1, 1, 0, 9);
        x.market(0, 1, 2, 1);
        // 0 1 0 2 would be 81.
        barter(x, 0, 1, 2, 1);
        steps(x, 2);
        x.market(2, 1, 3, 9);
        x.market(3, 1, 2, 9);
        // 0 2 3 2 would be 81.
        barter(x, 0, 1, 2, 1);
        steps(x, 2);
    }

    private static void throughAllGoods() {
        Check.sentence("no GOOD twice: five MARKETS are the most");
        TributeLists x = new TributeLists();
        int[] order = {3, 0, 5, 1, 4, 2};
        for (int k = 4; k >= 0; k--) {
            x.market(order[k], 1, order[k + 1], 2);
        }
        barter(x, 3, 1, 2, 32);
        steps(x, 4, 3, 2, 1, 0);
    }

    private static void allMarkets() {
        Check.sentence("THE BEST BARTER of 20 MARKETS");
        TributeLists x = new TributeLists();
        int k = 0;
        for (int from = 0; from < 5; from++) {
            for (int to = 0; to < 6; to++) {
                if (from != to && k < 19) {
                    x.market(from, 1, to, 1);
                    k++;
                }
            }
        }
        Check.due("market no. 19", x.market(4, 1, 5, 2), 19);
        barter(x, 0, 7, 5, 14);
        steps(x, 3, 19);
        barter(x, 5, 7, 0, -1);
        barter(x, 4, 7, 5, 14);
        steps(x, 19);
    }

    private static void most() {
        Check.sentence("THE BEST BARTER: the most of the other GOOD");
        TributeLists x = new TributeLists();
        x.market(0, 1, 1, 4);
        x.market(0, 1, 1, 5);
        x.market(0, 1, 2, 2);
        x.market(2, 1, 1, 3);
        barter(x, 0, 1, 1, 6);
        steps(x, 2, 3);
        x.market(0, 7, 1, 49);
        barter(x, 0, 7, 1, 49);
        steps(x, 4);
        barter(x, 0, 8, 1, 49);
        steps(x, 4);
        barter(x, 0, 9, 1, 54);
        steps(x, 2, 3);
        barter(x, 0, 6, 1, 36);
        steps(x, 2, 3);
    }

    private static void fewest() {
        Check.sentence("of like ones the fewest MARKETS");
        TributeLists x = new TributeLists();
        x.market(0, 1, 1, 1);
        x.market(1, 1, 2, 1);
        x.market(2, 1, 3, 1);
        x.market(3, 1, 4, 1);
        x.market(4, 1, 5, 1);
        int[][] shorter = {{3, 5}, {2, 5}, {1, 5}, {0, 5}};
        int[][] want = {{0, 1, 2, 5}, {0, 1, 6}, {0, 7}, {8}};
        barter(x, 0, 9, 5, 9);
        steps(x, 0, 1, 2, 3, 4);
        for (int k = 0; k < shorter.length; k++) {
            x.market(shorter[k][0], 1, shorter[k][1], 1);
            barter(x, 0, 9, 5, 9);
            steps(x, want[k]);
        }
    }

    private static void firstByNumbers() {
        Check.sentence("of these the first by MARKETS' numbers, one behind the other");
        TributeLists x = new TributeLists();
        x.market(1, 1, 5, 2);
        x.market(0, 1, 2, 2);
        x.market(0, 1, 1, 2);
        x.market(2, 1, 5, 2);
        barter(x, 0, 1, 5, 4);
        // By the first number, 1 3 against 2 0.
        steps(x, 1, 3);
        x.market(2, 1, 5, 2);
        barter(x, 0, 1, 5, 4);
        // By the second, 1 3 against 1 4.
        steps(x, 1, 3);
        x.market(0, 1, 5, 4);
        x.market(0, 1, 5, 4);
        barter(x, 0, 1, 5, 4);
        steps(x, 5);
        TributeLists y = new TributeLists();
        y.market(0, 1, 1, 1);
        y.market(1, 1, 3, 1);
        y.market(1, 1, 2, 1);
        y.market(3, 1, 4, 1);
        y.market(2, 1, 4, 1);
        barter(y, 0, 1, 4, 1);
        steps(y, 0, 1, 3);
    }

    private static void largestTold() {
        Check.sentence("barter: how many (1000000000 if more)");
        TributeLists x = new TributeLists();
        x.market(0, 1, 1, 50);
        x.market(1, 1, 2, 50);
        x.market(2, 1, 3, 50);
        x.market(3, 1, 4, 8);
        barter(x, 0, 999, 4, 999000000);
        barter(x, 0, 1000, 4, 1000000000);
        barter(x, 0, 1001, 4, 1000000000);
        barter(x, 0, 2147, 4, 1000000000);
        barter(x, 0, 2148, 4, 1000000000);
        barter(x, 0, 4295, 4, 1000000000);
        barter(x, 0, 9999, 4, 1000000000);
        steps(x, 0, 1, 2, 3);
    }

    private static void largestOfAll() {
        Check.sentence("THE BEST BARTER: the most, above 1000000000 too");
        TributeLists x = new TributeLists();
        for (int g = 0; g < 5; g++) {
            x.market(g, 1, g + 1, 99);
        }
        barter(x, 0, 9999, 5, 1000000000);
        steps(x, 0, 1, 2, 3, 4);
        x.market(3, 1, 5, 99);
        barter(x, 0, 9999, 5, 1000000000);
        steps(x, 0, 1, 2, 3, 4);
        // What is above 1000000000 in between may be less than that at the end.
        TributeLists y = new TributeLists();
        y.market(0, 1, 1, 99);
        y.market(1, 1, 2, 99);
        y.market(2, 1, 3, 99);
        y.market(3, 99, 4, 1);
        y.market(4, 99, 5, 1);
        barter(y, 0, 9999, 5, 9999 * 99);
        barter(y, 0, 9999, 3, 1000000000);
    }

    private static void aheadOfAny() {
        Check.sentence("bartered: NONE if there is none such: ahead of any barter()");
        TributeLists x = new TributeLists();
        steps(x);
        x.market(0, 1, 1, 1);
        steps(x);
        x.barter(1, 1, 0);
        x.barter(0, 0, 1);
        x.barter(0, 1, 0);
        steps(x);
        Check.dueForAll("bartered(*)", Check.beyond(0, 4), -1, x::bartered);
    }

    private static void othersOfBartered() {
        Check.sentence("bartered: NONE if there is none such");
        TributeLists x = new TributeLists();
        for (int g = 0; g < 5; g++) {
            x.market(g, 1, g + 1, 1);
        }
        for (int g = 1; g < 6; g++) {
            barter(x, 0, 1, g, 1);
            for (int i = 0; i < g; i++) {
                Check.due("bartered(" + i + ") of " + g, x.bartered(i), i);
            }
            Check.dueForAll("bartered(*) of " + g, Check.beyond(0, g - 1), -1, x::bartered);
        }
        barter(x, 4, 1, 5, 1);
        steps(x, 4);
    }

    private static void latestThatTold() {
        Check.sentence("bartered: of the latest barter() that told a number");
        TributeLists x = new TributeLists();
        x.market(0, 1, 1, 1);
        x.market(1, 5, 2, 1);
        barter(x, 0, 5, 2, 1);
        int[][] refused = {{0, 0, 1}, {0, 10000, 1}, {0, 1, 0}, {-1, 1, 1}, {6, 1, 1}, {0, 1, -1}, {0, 1, 6}, {2, 1, 0}, {0, 1, 5}};
        for (int[] r : refused) {
            barter(x, r[0], r[1], r[2], -1);
            steps(x, 0, 1);
        }
        x.market(0, 1, 2, 99);
        steps(x, 0, 1);
        barter(x, 1, 4, 2, 0);
        steps(x, 1);
    }
}
