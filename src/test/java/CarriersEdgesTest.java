/** A test for each sentence on the bounds of WEIGHT, LOAD and CARRIERS (promises 4 and 5). */
public final class CarriersEdgesTest {
    private static final int[] NO_GOODS = Check.beyond(0, 5);

    public static void main(String[] args) {
        atFirst();
        goodsOfWeights();
        boundsOfWeight();
        boundsOfLoad();
        notAboveTheLoad();
        oneAboveTheLoad();
        boundsOfPieces();
        goodsOfCarriers();
        Check.finish();
    }

    private static void atFirst() {
        Check.sentence("WEIGHT at first 10, LOAD at first 23");
        TributeLists x = new TributeLists();
        for (int g = 0; g < 6; g++) {
            Check.due("about(10 + " + g + ")", x.about(10 + g), 10);
            Check.due("carriers(" + g + ", 2)", x.carriers(g, 2), 1);
            Check.due("carriers(" + g + ", 3)", x.carriers(g, 3), 2);
        }
        Check.due("about(5)", x.about(5), 23);
    }

    private static void goodsOfWeights() {
        Check.sentence("GOODS 0 .. 5; weight: LOAD (good NONE), false for others");
        TributeLists x = new TributeLists();
        Check.due("weight(0, 11)", x.weight(0, 11), true);
        Check.due("weight(5, 12)", x.weight(5, 12), true);
        Check.due("weight(-1, 13)", x.weight(-1, 13), true);
        Check.dueForAll("weight(*, 1)", Check.beyond(-1, 5), 0, v -> x.weight(v, 1) ? 1 : 0);
        Check.due("about(5)", x.about(5), 13);
        int[] want = {11, 10, 10, 10, 10, 12};
        for (int g = 0; g < 6; g++) {
            Check.due("about(10 + " + g + ")", x.about(10 + g), want[g]);
        }
    }

    private static void boundsOfWeight() {
        Check.sentence("WEIGHT of a piece (1 .. 50)");
        for (int g = 0; g < 6; g++) {
            int good = g;
            TributeLists x = new TributeLists();
            Check.due("weight(" + g + ", 50)", x.weight(g, 50), true);
            Check.due("about(10 + " + g + ")", x.about(10 + g), 50);
            Check.due("weight(" + g + ", 1)", x.weight(g, 1), true);
            Check.due("about(10 + " + g + ")", x.about(10 + g), 1);
            x.weight(g, 17);
            Check.dueForAll("weight(" + g + ", *)", Check.beyond(1, 50), 0, v -> x.weight(good, v) ? 1 : 0);
            Check.due("about(10 + " + g + "): the former one stays", x.about(10 + g), 17);
            Check.due("about(5)", x.about(5), 23);
        }
    }

    private static void boundsOfLoad() {
        Check.sentence("LOAD (1 .. 100)");
        TributeLists x = new TributeLists();
        Check.due("weight(-1, 100)", x.weight(-1, 100), true);
        Check.due("about(5)", x.about(5), 100);
        Check.due("weight(-1, 1)", x.weight(-1, 1), true);
        Check.due("about(5)", x.about(5), 1);
        Check.due("weight(-1, 51): above the bound of a WEIGHT", x.weight(-1, 51), true);
        Check.dueForAll("weight(-1, *)", Check.beyond(1, 100), 0, v -> x.weight(-1, v) ? 1 : 0);
        Check.due("about(5): the former one stays", x.about(5), 51);
        for (int g = 0; g < 6; g++) {
            Check.due("about(10 + " + g + ")", x.about(10 + g), 10);
        }
    }

    private static void notAboveTheLoad() {
        Check.sentence("as many as their WEIGHTS together are not above LOAD");
        TributeLists x = new TributeLists();
        x.weight(-1, 30);
        Check.due("carriers(0, 3): 30 together", x.carriers(0, 3), 1);
        Check.due("carriers(0, 4)", x.carriers(0, 4), 2);
        x.weight(-1, 29);
        Check.due("carriers(0, 3): 30 would be above 29", x.carriers(0, 3), 2);
        Check.due("carriers(0, 2)", x.carriers(0, 2), 1);
        x.weight(-1, 100);
        x.weight(0, 50);
        Check.due("carriers(0, 2) of the heaviest", x.carriers(0, 2), 1);
        Check.due("carriers(0, 3) of the heaviest", x.carriers(0, 3), 2);
        x.weight(0, 1);
        Check.due("carriers(0, 100) of the lightest", x.carriers(0, 100), 1);
        Check.due("carriers(0, 101) of the lightest", x.carriers(0, 101), 2);
        Check.due("carriers(0, 9999) of the lightest", x.carriers(0, 9999), 100);
    }

    private static void oneAboveTheLoad() {
        Check.sentence("one, if one is above it");
        TributeLists x = new TributeLists();
        x.weight(0, 23);
        Check.due("carriers(0, 2) of just the load", x.carriers(0, 2), 2);
        x.weight(0, 24);
        Check.due("carriers(0, 2) of one more", x.carriers(0, 2), 2);
        x.weight(0, 50);
        x.weight(-1, 1);
        Check.due("carriers(0, 1) of the heaviest with the least load", x.carriers(0, 1), 1);
        Check.due("carriers(0, 9999) of the heaviest with the least load", x.carriers(0, 9999), 9999);
        Check.due("carriers(0, 0)", x.carriers(0, 0), 0);
    }

    private static void boundsOfPieces() {
        Check.sentence("carriers: so many pieces (0 .. 9999), NONE for others");
        TributeLists x = new TributeLists();
        Check.due("carriers(0, 0)", x.carriers(0, 0), 0);
        Check.due("carriers(0, 1)", x.carriers(0, 1), 1);
        Check.due("carriers(0, 9998)", x.carriers(0, 9998), 4999);
        Check.due("carriers(0, 9999)", x.carriers(0, 9999), 5000);
        Check.dueForAll("carriers(0, *)", Check.beyond(0, 9999), -1, v -> x.carriers(0, v));
    }

    private static void goodsOfCarriers() {
        Check.sentence("GOODS 0 .. 5; carriers: NONE for others");
        TributeLists x = new TributeLists();
        Check.due("carriers(0, 9)", x.carriers(0, 9), 5);
        Check.due("carriers(5, 9)", x.carriers(5, 9), 5);
        Check.dueForAll("carriers(*, 9)", NO_GOODS, -1, v -> x.carriers(v, 9));
        Check.dueForAll("carriers(*, 0)", NO_GOODS, -1, v -> x.carriers(v, 0));
    }
}
