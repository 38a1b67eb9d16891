/** Promises 17 (account) and 18 (late), and the debts that days() brings (16). */
public final class AccountsTest {
    public static void main(String[] args) {
        others();
        debts();
        oldestFirst();
        aheadOfNewDebts();
        gifts();
        byNumbers();
        copiesAsTheyAreThen();
        everyQuarter();
        largest();
        Check.finish();
    }

    private static void account(TributeLists x, int town, int good, int... want) {
        for (int what = 0; what < want.length; what++) {
            Check.due("account(" + town + ", " + good + ", " + what + ") on day " + x.about(0), x.account(town, good, what), want[what]);
        }
    }

    private static void others() {
        TributeLists x = new TributeLists();
        int[][] wrong = {{0, 0, 0}, {16, 0, 0}, {-1, 0, 0}, {1, 6, 0}, {1, -1, 0}, {1, 0, -1}, {1, 0, 4}, {2, -6, 0}, {1, 0, Integer.MAX_VALUE}};
        for (int[] w : wrong) {
            Check.due("account(" + w[0] + ", " + w[1] + ", " + w[2] + ")", x.account(w[0], w[1], w[2]), -1);
        }
        account(x, 15, 5, 0, 0, -1, 0);
        Check.due("late(0)", x.late(0), -1);
        Check.due("late(-1)", x.late(-1), -1);
        Check.due("late(16)", x.late(16), -1);
        Check.due("late(15)", x.late(15), 0);
    }

    private static void debts() {
        TributeLists x = new TributeLists();
        Check.read(x, 0, "town 1:0 5,5 7;town 15:3 0;");
        x.days(89);
        account(x, 1, 0, 0, 0, -1, 0);
        Check.due("about(1)", x.about(1), 0);
        x.days(1);
        account(x, 1, 0, 5, 0, 0, 0);
        account(x, 1, 5, 7, 0, 0, 0);
        account(x, 1, 1, 0, 0, -1, 0);
        account(x, 15, 3, 0, 0, -1, 0);
        Check.due("late(1)", x.late(1), 0);
        x.days(1);
        Check.due("late(1)", x.late(1), 12);
        x.days(89);
        account(x, 1, 0, 10, 0, 0, 0);
        Check.due("late(1)", x.late(1), 12 * 90);
        x.days(1);
        Check.due("late(1)", x.late(1), 12 * 92);
        Check.due("late(2)", x.late(2), 0);
    }

    private static void oldestFirst() {
        TributeLists x = new TributeLists();
        x.road(0, 1, 10);
        Check.read(x, 0, "town 1:0 5;");
        x.days(100);
        x.days(85);
        account(x, 1, 0, 10, 0, 0, 0);
        x.send(1, 0, 3);
        x.send(1, 1, 4);
        x.days(10);
        account(x, 1, 0, 7, 0, 0, 3);
        account(x, 1, 1, 0, 4, -1, 0);
        Check.due("late(1)", x.late(1), 3 * 105 + 2 * 105 + 5 * 15);
        x.send(1, 0, 3);
        x.days(10);
        account(x, 1, 0, 4, 0, 1, 6);
        Check.due("late(1)", x.late(1), 3 * 105 + 2 * 115 + 5 * 25);
        x.days(5);
        Check.due("late(1)", x.late(1), 3 * 105 + 2 * 115 + 1 * 25 + 4 * 30);
        x.send(1, 0, 5);
        x.days(10);
        account(x, 1, 0, 0, 1, -1, 10);
        Check.due("sending(3, 7)", x.sending(3, 7), 4);
        Check.due("late(1)", x.late(1), 3 * 105 + 2 * 115 + 1 * 25 + 4 * 40);
        x.days(20);
        Check.due("late(1) stands", x.late(1), 3 * 105 + 2 * 115 + 1 * 25 + 4 * 40);
    }

    private static void aheadOfNewDebts() {
        TributeLists x = new TributeLists();
        x.road(0, 1, 10);
        Check.read(x, 0, "town 1:0 5;");
        x.days(80);
        x.send(1, 0, 3);
        x.days(10);
        Check.due("sending(0, 6)", x.sending(0, 6), 1);
        Check.due("sending(0, 7): its pieces came ahead of the debt", x.sending(0, 7), 0);
        account(x, 1, 0, 2, 0, 0, 3);
        Check.due("late(1)", x.late(1), 0);
    }

    private static void gifts() {
        TributeLists x = new TributeLists();
        x.road(0, 1, 1);
        x.road(0, 2, 1);
        Check.read(x, 0, "town 1:0 5;town 2:0 5;");
        x.send(1, 0, 12);
        x.send(1, 1, 12);
        x.days(90);
        account(x, 1, 0, 0, 7, -1, 5);
        account(x, 1, 1, 0, 12, -1, 0);
        account(x, 2, 0, 5, 0, 0, 0);
        x.days(90);
        account(x, 1, 0, 0, 2, -1, 10);
        x.days(90);
        account(x, 1, 0, 3, 0, 2, 12);
        Check.due("late(1)", x.late(1), 0);
        x.days(2);
        Check.due("late(1)", x.late(1), 6);
        Check.due("sending(0, 7)", x.sending(0, 7), 0);
    }

    private static void byNumbers() {
        TributeLists x = new TributeLists();
        x.road(0, 1, 10);
        Check.read(x, 0, "town 1:0 5;");
        x.days(95);
        x.send(1, 0, 4);
        x.days(4);
        x.road(0, 1, 6);
        x.send(1, 0, 4);
        x.days(6);
        Check.due("sending(0, 7)", x.sending(0, 7), 4);
        Check.due("sending(1, 7)", x.sending(1, 7), 1);
        account(x, 1, 0, 0, 3, -1, 5);
        Check.due("late(1)", x.late(1), 5 * 15);
    }

    private static void copiesAsTheyAreThen() {
        TributeLists x = new TributeLists();
        Check.read(x, 0, "town 1:0 5;");
        x.days(90);
        Check.read(x, 0, "town 1:0 8;");
        account(x, 1, 0, 5, 0, 0, 0);
        x.days(90);
        account(x, 1, 0, 13, 0, 0, 0);
        Check.read(x, 1, "town 1:0 0;");
        x.days(90);
        account(x, 1, 0, 13, 0, 0, 0);
        Check.read(x, 1, "");
        x.days(90);
        account(x, 1, 0, 21, 0, 0, 0);
    }

    private static void everyQuarter() {
        TributeLists x = new TributeLists();
        Check.read(x, 0, "town 15:5 1;");
        Check.pass(x, 3000);
        account(x, 15, 5, 33, 0, 0, 0);
        long late = 0;
        for (int q = 0; q < 33; q++) {
            late += 3000 - 90 * (q + 1);
        }
        Check.due("late(15)", x.late(15), late);
    }

    private static void largest() {
        TributeLists x = new TributeLists();
        Check.read(x, 0, "town 1:0 9999,1 9999,2 9999,3 9999,4 9999,5 9999;");
        Check.pass(x, 3000);
        long late = 0;
        for (int q = 0; q < 33; q++) {
            late += 6L * 9999 * (3000 - 90 * (q + 1));
        }
        Check.due("late(1) above an int", late > Integer.MAX_VALUE, true);
        Check.due("late(1)", x.late(1), late);
    }
}
