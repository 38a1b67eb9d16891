/** Promises 4 (weight) and 5 (carriers). */
public final class CarriersTest {
    public static void main(String[] args) {
        weights();
        loads();
        needs();
        Check.finish();
    }

    private static void weights() {
        TributeLists x = new TributeLists();
        for (int g = 0; g < 6; g++) {
            Check.due("about(10 + " + g + ") at first", x.about(10 + g), 10);
            Check.due("weight(" + g + ", 1)", x.weight(g, 1), true);
            Check.due("weight(" + g + ", 50)", x.weight(g, 50), true);
            Check.due("weight(" + g + ", 51)", x.weight(g, 51), false);
            Check.due("weight(" + g + ", 0)", x.weight(g, 0), false);
            Check.due("about(10 + " + g + ")", x.about(10 + g), 50);
        }
        Check.due("weight(6, 5)", x.weight(6, 5), false);
        Check.due("weight(-2, 5)", x.weight(-2, 5), false);
        Check.due("weight(max, 5)", x.weight(Integer.MAX_VALUE, 5), false);
        x.weight(2, 7);
        Check.due("about(12)", x.about(12), 7);
        Check.due("about(13)", x.about(13), 50);
    }

    private static void loads() {
        TributeLists x = new TributeLists();
        Check.due("about(5) at first", x.about(5), 23);
        Check.due("weight(-1, 100)", x.weight(-1, 100), true);
        Check.due("weight(-1, 101)", x.weight(-1, 101), false);
        Check.due("about(5)", x.about(5), 100);
        Check.due("weight(-1, 1)", x.weight(-1, 1), true);
        Check.due("weight(-1, 0)", x.weight(-1, 0), false);
        Check.due("weight(-1, -1)", x.weight(-1, -1), false);
        Check.due("about(5)", x.about(5), 1);
        Check.due("about(10) beside a load", x.about(10), 10);
    }

    private static void needs() {
        TributeLists x = new TributeLists();
        Check.due("carriers(0, 0)", x.carriers(0, 0), 0);
        Check.due("carriers(0, 1)", x.carriers(0, 1), 1);
        Check.due("carriers(0, 2)", x.carriers(0, 2), 1);
        Check.due("carriers(0, 3)", x.carriers(0, 3), 2);
        Check.due("carriers(5, 9999)", x.carriers(5, 9999), 5000);
        Check.due("carriers(0, 10000)", x.carriers(0, 10000), -1);
        Check.due("carriers(0, -1)", x.carriers(0, -1), -1);
        Check.due("carriers(-1, 1)", x.carriers(-1, 1), -1);
        Check.due("carriers(6, 1)", x.carriers(6, 1), -1);
        x.weight(0, 23);
        Check.due("carriers(0, 4) of just the load", x.carriers(0, 4), 4);
        x.weight(0, 24);
        Check.due("carriers(0, 4) above the load", x.carriers(0, 4), 4);
        x.weight(0, 1);
        Check.due("carriers(0, 23)", x.carriers(0, 23), 1);
        Check.due("carriers(0, 24)", x.carriers(0, 24), 2);
        x.weight(-1, 30);
        Check.due("carriers(1, 6) of three each", x.carriers(1, 6), 2);
        Check.due("carriers(1, 7)", x.carriers(1, 7), 3);
    }
}
