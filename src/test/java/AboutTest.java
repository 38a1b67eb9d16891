/** Promises 1 (a new object) and 25 (about). */
public final class AboutTest {
    public static void main(String[] args) {
        newObject();
        others();
        counts();
        apart();
        Check.finish();
    }

    private static void newObject() {
        TributeLists x = new TributeLists();
        int[] want = {0, 0, 0, 0, 0, 23, 0, 0, -1, -1, 10, 10, 10, 10, 10, 10, -1};
        for (int what = 0; what < want.length; what++) {
            Check.due("about(" + what + ") at first", x.about(what), want[what]);
        }
        for (int p = 1; p < 16; p++) {
            Check.due("way(0, " + p + ")", x.way(0, p), -1);
            Check.due("late(" + p + ")", x.late(p), 0);
            for (int g = 0; g < 6; g++) {
                Check.due("owed(" + p + ", " + g + ")", x.owed(p, g), 0);
                Check.due("tells(0, " + p + ", " + g + ")", x.tells(0, p, g), -1);
            }
        }
        Check.due("fault(0)", x.fault(0), -1);
        Check.due("quarrels()", x.quarrels(), 0);
        Check.due("piece(0)", x.piece(0), -1);
        Check.due("sending(0, 0)", x.sending(0, 0), -1);
        Check.due("barter(0, 1, 1)", x.barter(0, 1, 1), -1);
        Check.due("bartered(0)", x.bartered(0), -1);
        Check.due("parted(1, 1)", x.parted(1, 1), -1);
        Check.due("NONE", TributeLists.NONE, -1);
    }

    private static void others() {
        TributeLists x = new TributeLists();
        int[] wrong = {-1, 8, 9, 16, 100, Integer.MIN_VALUE, Integer.MAX_VALUE};
        for (int w : wrong) {
            Check.due("about(" + w + ")", x.about(w), -1);
        }
    }

    private static void counts() {
        TributeLists x = new TributeLists();
        x.road(0, 1, 3);
        Check.read(x, 0, "town 1:0 1;");
        Check.read(x, 0, "town 1:0 2;");
        Check.read(x, 4, "town 1:0 2;");
        Check.read(x, 3, "town 1:0 x;");
        Check.due("about(7)", x.about(7), 2);
        Check.tape(x, "12345");
        Check.due("about(6)", x.about(6), 5);
        x.send(1, 0, 9);
        x.send(1, 0, 4);
        Check.due("about(2)", x.about(2), 2);
        Check.due("about(3)", x.about(3), 0);
        x.days(3);
        Check.due("about(3)", x.about(3), 13);
        Check.due("about(0)", x.about(0), 3);
        x.days(86);
        Check.due("about(1)", x.about(1), 0);
        x.days(1);
        Check.due("about(1)", x.about(1), 1);
        x.market(0, 1, 1, 1);
        x.market(0, 1, 1, 1);
        Check.due("about(4)", x.about(4), 2);
        x.weight(5, 33);
        x.weight(-1, 44);
        Check.due("about(5)", x.about(5), 44);
        Check.due("about(15)", x.about(15), 33);
        Check.due("about(10)", x.about(10), 10);
    }

    private static void apart() {
        TributeLists x = new TributeLists();
        TributeLists y = new TributeLists();
        x.days(5);
        x.road(0, 1, 1);
        x.market(0, 1, 1, 1);
        Check.due("about(0) of another object", y.about(0), 0);
        Check.due("way(0, 1) of another object", y.way(0, 1), -1);
        Check.due("about(4) of another object", y.about(4), 0);
    }
}
