/** A test for each sentence on the bounds of PLACES, ROADS and WAY (promises 2 and 3). */
public final class RoadsEdgesTest {
    private static final int[] NO_PLACES = Check.beyond(0, 15);

    public static void main(String[] args) {
        placesOfRoads();
        placesOfWays();
        daysOfRoads();
        daysOfNoRoad();
        onePlace();
        latestTold();
        noneByZero();
        leastSum();
        nearestIsNotFirst();
        throughAnyPlace();
        longest();
        far();
        ofOnePlace();
        Check.finish();
    }

    private static void placesOfRoads() {
        Check.sentence("PLACES 0 .. 15; road: false for others");
        TributeLists x = new TributeLists();
        Check.due("road(0, 15, 4)", x.road(0, 15, 4), true);
        Check.due("road(15, 14, 5)", x.road(15, 14, 5), true);
        Check.dueForAll("road(*, 3, 1)", NO_PLACES, 0, v -> x.road(v, 3, 1) ? 1 : 0);
        Check.dueForAll("road(3, *, 1)", NO_PLACES, 0, v -> x.road(3, v, 1) ? 1 : 0);
        Check.dueForAll("road(*, *, 1)", NO_PLACES, 0, v -> x.road(v, v, 1) ? 1 : 0);
        Check.due("way(0, 14)", x.way(0, 14), 9);
        for (int p = 0; p < 16; p++) {
            Check.due("way(3, " + p + ") behind refused roads", x.way(3, p), p == 3 ? 0 : -1);
        }
    }

    private static void placesOfWays() {
        Check.sentence("PLACES 0 .. 15; way: NONE for others");
        TributeLists x = new TributeLists();
        for (int p = 0; p < 15; p++) {
            x.road(p, p + 1, 1);
        }
        Check.due("way(0, 15)", x.way(0, 15), 15);
        Check.due("way(15, 0)", x.way(15, 0), 15);
        Check.dueForAll("way(*, 0)", NO_PLACES, -1, v -> x.way(v, 0));
        Check.dueForAll("way(15, *)", NO_PLACES, -1, v -> x.way(15, v));
        Check.dueForAll("way(*, *)", NO_PLACES, -1, v -> x.way(v, v));
    }

    private static void daysOfRoads() {
        Check.sentence("ROADS: days (1 .. 30)");
        TributeLists x = new TributeLists();
        Check.due("road(0, 1, 1)", x.road(0, 1, 1), true);
        Check.due("way(0, 1)", x.way(0, 1), 1);
        Check.due("road(0, 1, 30)", x.road(0, 1, 30), true);
        Check.due("way(0, 1)", x.way(0, 1), 30);
    }

    private static void daysOfNoRoad() {
        Check.sentence("ROADS: days (1 .. 30), 0: none; road: false for others");
        TributeLists x = new TributeLists();
        x.road(0, 1, 7);
        for (int v : Check.beyond(0, 30)) {
            Check.due("road(0, 1, " + v + ")", x.road(0, 1, v), false);
            Check.due("road(2, 3, " + v + ")", x.road(2, 3, v), false);
            Check.due("way(0, 1): the former road stays", x.way(0, 1), 7);
            Check.due("way(2, 3): none is laid", x.way(2, 3), -1);
        }
    }

    private static void onePlace() {
        Check.sentence("road: false for one and the same PLACE");
        TributeLists x = new TributeLists();
        for (int p = 0; p < 16; p++) {
            Check.due("road(" + p + ", " + p + ", 1)", x.road(p, p, 1), false);
            Check.due("road(" + p + ", " + p + ", 30)", x.road(p, p, 30), false);
            Check.due("road(" + p + ", " + p + ", 0)", x.road(p, p, 0), false);
            Check.due("way(" + p + ", " + p + ")", x.way(p, p), 0);
        }
    }

    private static void latestTold() {
        Check.sentence("the latest told of two PLACES counts");
        TributeLists x = new TributeLists();
        x.road(0, 15, 5);
        x.road(0, 15, 6);
        Check.due("way(0, 15): a longer one", x.way(0, 15), 6);
        x.road(15, 0, 9);
        Check.due("way(0, 15): told from the other end", x.way(0, 15), 9);
        Check.due("way(15, 0)", x.way(15, 0), 9);
        x.road(15, 0, 2);
        Check.due("way(0, 15): a shorter one", x.way(0, 15), 2);
        x.road(0, 15, 0);
        x.road(0, 15, 8);
        Check.due("way(15, 0): behind none", x.way(15, 0), 8);
    }

    private static void noneByZero() {
        Check.sentence("ROADS: 0: none");
        TributeLists x = new TributeLists();
        Check.due("road(1, 2, 0) where none was", x.road(1, 2, 0), true);
        Check.due("way(1, 2)", x.way(1, 2), -1);
        x.road(1, 2, 3);
        x.road(2, 3, 3);
        Check.due("road(2, 1, 0)", x.road(2, 1, 0), true);
        Check.due("way(1, 2)", x.way(1, 2), -1);
        Check.due("way(1, 3)", x.way(1, 3), -1);
        Check.due("way(2, 3): another road stays", x.way(2, 3), 3);
    }

    private static void leastSum() {
        Check.sentence("WAY: the least sum of days");
        TributeLists x = new TributeLists();
        x.road(0, 1, 30);
        x.road(0, 2, 14);
        x.road(2, 1, 15);
        Check.due("way(0, 1): 29 by two roads, 30 by one", x.way(0, 1), 29);
        x.road(0, 1, 29);
        Check.due("way(0, 1): 29 by either", x.way(0, 1), 29);
        x.road(0, 1, 28);
        Check.due("way(0, 1): 28 by one", x.way(0, 1), 28);
    }

    private static void nearestIsNotFirst() {
        Check.sentence("WAY: the least sum of days");
        TributeLists x = new TributeLists();
        // A place with a low number that is far off must not be settled ahead of nearer ones.
        x.road(0, 3, 30);
        x.road(0, 15, 1);
        x.road(15, 14, 1);
        x.road(14, 3, 1);
        x.road(3, 4, 1);
        Check.due("way(0, 3)", x.way(0, 3), 3);
        Check.due("way(0, 4)", x.way(0, 4), 4);
        Check.due("way(4, 0)", x.way(4, 0), 4);
        // Nor one with a high number.
        TributeLists z = new TributeLists();
        z.road(0, 15, 30);
        z.road(0, 1, 1);
        z.road(1, 2, 1);
        z.road(2, 15, 1);
        Check.due("way(0, 15)", z.way(0, 15), 3);
        Check.due("way(15, 0)", z.way(15, 0), 3);
        z.road(15, 14, 1);
        Check.due("way(0, 14)", z.way(0, 14), 4);
        TributeLists y = new TributeLists();
        y.road(0, 1, 20);
        y.road(1, 15, 20);
        y.road(0, 2, 5);
        y.road(2, 1, 5);
        Check.due("way(0, 15)", y.way(0, 15), 30);
        Check.due("way(15, 0)", y.way(15, 0), 30);
    }

    private static void throughAnyPlace() {
        Check.sentence("WAY: the least sum of days, through any PLACE, the city too");
        for (int p = 0; p < 16; p++) {
            TributeLists x = new TributeLists();
            int a = (p + 1) % 16;
            int b = (p + 9) % 16;
            x.road(a, p, 3);
            x.road(p, b, 4);
            Check.due("way(" + a + ", " + b + ") through " + p, x.way(a, b), 7);
            Check.due("way(" + b + ", " + a + ") through " + p, x.way(b, a), 7);
        }
    }

    private static void longest() {
        Check.sentence("WAY: the least sum of days, of the longest ROADS through all PLACES");
        TributeLists x = new TributeLists();
        int[] order = {0, 9, 4, 13, 2, 11, 6, 15, 8, 1, 10, 3, 12, 5, 14, 7};
        for (int k = 0; k < 15; k++) {
            x.road(order[k], order[k + 1], 30);
        }
        Check.due("way(0, 7)", x.way(0, 7), 450);
        Check.due("way(7, 0)", x.way(7, 0), 450);
        Check.due("way(0, 14)", x.way(0, 14), 420);
        for (int a = 0; a < 15; a++) {
            for (int b = a + 1; b < 16; b++) {
                x.road(a, b, 30);
            }
        }
        Check.due("way(0, 7) with a road between any two", x.way(0, 7), 30);
    }

    private static void far() {
        Check.sentence("FAR, if there is none; way: NONE: FAR");
        TributeLists x = new TributeLists();
        for (int p = 1; p < 16; p++) {
            Check.due("way(0, " + p + ") without roads", x.way(0, p), -1);
        }
        for (int p = 1; p < 15; p++) {
            x.road(p, p + 1, 1);
        }
        for (int p = 1; p < 16; p++) {
            Check.due("way(0, " + p + ") with roads that don't come to 0", x.way(0, p), -1);
            Check.due("way(" + p + ", 0)", x.way(p, 0), -1);
        }
        x.road(15, 0, 1);
        Check.due("way(0, 1) by one more road", x.way(0, 1), 15);
    }

    private static void ofOnePlace() {
        Check.sentence("WAY of a PLACE to itself: no days");
        TributeLists x = new TributeLists();
        x.road(0, 15, 3);
        Check.due("way(0, 0)", x.way(0, 0), 0);
        Check.due("way(15, 15)", x.way(15, 15), 0);
        Check.due("way(7, 7) without a road", x.way(7, 7), 0);
    }
}
