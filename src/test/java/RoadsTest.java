/** Promises 2 (road) and 3 (way). */
public final class RoadsTest {
    public static void main(String[] args) {
        wrongRoads();
        ways();
        latestTold();
        longestWay();
        Check.finish();
    }

    private static void wrongRoads() {
        TributeLists x = new TributeLists();
        int[][] wrong = {{0, 0, 1}, {3, 3, 0}, {-1, 0, 1}, {0, -1, 1}, {16, 0, 1}, {0, 16, 1}, {0, 1, -1}, {0, 1, 31},
            {Integer.MIN_VALUE, 0, 1}, {0, Integer.MAX_VALUE, 1}, {0, 1, Integer.MAX_VALUE}};
        for (int[] w : wrong) {
            Check.due("road(" + w[0] + ", " + w[1] + ", " + w[2] + ")", x.road(w[0], w[1], w[2]), false);
        }
        Check.due("way(0, 1) without roads", x.way(0, 1), -1);
        int[][] others = {{-1, 0}, {0, -1}, {16, 0}, {0, 16}, {16, 16}, {-1, -1}};
        for (int[] w : others) {
            Check.due("way(" + w[0] + ", " + w[1] + ")", x.way(w[0], w[1]), -1);
        }
        for (int p = 0; p < 16; p++) {
            Check.due("way(" + p + ", " + p + ")", x.way(p, p), 0);
        }
    }

    private static void ways() {
        TributeLists x = new TributeLists();
        Check.due("road(0, 1, 30)", x.road(0, 1, 30), true);
        Check.due("road(0, 2, 1)", x.road(0, 2, 1), true);
        Check.due("road(3, 2, 1)", x.road(3, 2, 1), true);
        Check.due("road(1, 3, 20)", x.road(1, 3, 20), true);
        Check.due("way(0, 1)", x.way(0, 1), 22);
        Check.due("way(1, 0)", x.way(1, 0), 22);
        Check.due("way(1, 2)", x.way(1, 2), 21);
        Check.due("way(0, 15)", x.way(0, 15), -1);
        x.road(15, 14, 3);
        Check.due("way(0, 15) apart", x.way(0, 15), -1);
        Check.due("way(14, 15)", x.way(14, 15), 3);
    }

    private static void latestTold() {
        TributeLists x = new TributeLists();
        x.road(0, 1, 5);
        x.road(1, 0, 9);
        Check.due("way(0, 1) of the latest road, though longer", x.way(0, 1), 9);
        x.road(0, 1, 31);
        Check.due("way(0, 1) behind a wrong road", x.way(0, 1), 9);
        Check.due("road(1, 0, 0)", x.road(1, 0, 0), true);
        Check.due("way(0, 1) without it", x.way(0, 1), -1);
        Check.due("road(4, 5, 0) where none was", x.road(4, 5, 0), true);
    }

    private static void longestWay() {
        TributeLists x = new TributeLists();
        for (int p = 0; p < 15; p++) {
            x.road(p, p + 1, 30);
        }
        Check.due("way(0, 15) through all", x.way(0, 15), 450);
        x.road(7, 8, 0);
        Check.due("way(0, 15) broken", x.way(0, 15), -1);
        Check.due("way(8, 15)", x.way(8, 15), 210);
    }
}
