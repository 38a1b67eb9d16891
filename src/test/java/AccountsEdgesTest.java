/** A test for each sentence on the bounds of QUARTERS, DEBTS, GIFTS and LATE (promises 16, 17 and 18). */
public final class AccountsEdgesTest {
    public static void main(String[] args) {
        othersOfAccount();
        whatOfAccount();
        nothingYet();
        daysOfQuarters();
        everyTownAndGood();
        aboveZero();
        asTheCopiesAreThen();
        lastQuarter();
        lastQuarterOfAll();
        severalInOneCall();
        aheadOfNewDebts();
        ownDebtsAlone();
        oldestFirst();
        whatIsMore();
        asFarAsTheyGo();
        mostOwed();
        mostGiven();
        othersOfLate();
        lateFromItsComing();
        lateOfPaid();
        lateOfGifts();
        lateOfAllGoods();
        lateAboveInt();
        Check.finish();
    }

    private static TributeLists owing(String text) {
        TributeLists x = new TributeLists();
        x.road(0, 1, 1);
        x.road(0, 2, 1);
        Check.read(x, 0, text);
        return x;
    }

    private static void account(TributeLists x, int town, int good, int... want) {
        for (int what = 0; what < want.length; what++) {
            Check.due("account(" + town + ", " + good + ", " + what + ") on DAY " + x.about(0), x.account(town, good, what), want[what]);
        }
    }

    private static void othersOfAccount() {
        Check.sentence("account: NONE for others: TOWNS 1 .. 15, GOODS 0 .. 5");
        for (int what = 0; what < 4; what++) {
            int w = what;
            TributeLists x = owing("town 1:0 5,5 6;town 15:0 7,5 8;");
            x.days(90);
            account(x, 1, 0, 5, 0, 0, 0);
            account(x, 15, 5, 8, 0, 0, 0);
            Check.dueForAll("account(*, 0, " + w + ")", Check.beyond(1, 15), -1, v -> x.account(v, 0, w));
            Check.dueForAll("account(*, 5, " + w + ")", Check.beyond(1, 15), -1, v -> x.account(v, 5, w));
            Check.dueForAll("account(1, *, " + w + ")", Check.beyond(0, 5), -1, v -> x.account(1, v, w));
            Check.dueForAll("account(15, *, " + w + ")", Check.beyond(0, 5), -1, v -> x.account(15, v, w));
        }
    }

    private static void whatOfAccount() {
        Check.sentence("account: what 0 .. 3, NONE for others");
        TributeLists x = owing("town 1:0 5;");
        x.days(90);
        x.send(1, 0, 2);
        x.days(1);
        account(x, 1, 0, 3, 0, 0, 2);
        Check.dueForAll("account(1, 0, *)", Check.beyond(0, 3), -1, v -> x.account(1, 0, v));
    }

    private static void nothingYet() {
        Check.sentence("account: the oldest QUARTER of which it owes (2; NONE)");
        TributeLists x = owing("town 1:0 5;");
        account(x, 1, 0, 0, 0, -1, 0);
        x.days(90);
        account(x, 1, 0, 5, 0, 0, 0);
        x.send(1, 0, 4);
        x.days(1);
        account(x, 1, 0, 1, 0, 0, 4);
        x.send(1, 0, 1);
        x.days(1);
        account(x, 1, 0, 0, 0, -1, 5);
    }

    private static void daysOfQuarters() {
        Check.sentence("as the clock comes to DAY 90 (q + 1)");
        TributeLists x = owing("town 1:0 5;");
        for (int q = 0; q < 33; q++) {
            Check.pass(x, 89);
            Check.due("account(1, 0, 0) ahead of QUARTER " + q, x.account(1, 0, 0), 5 * q);
            Check.due("about(1) ahead of QUARTER " + q, x.about(1), q);
            x.days(1);
            Check.due("account(1, 0, 0) with QUARTER " + q, x.account(1, 0, 0), 5 * q + 5);
            Check.due("about(1) with QUARTER " + q, x.about(1), q + 1);
            Check.due("about(0)", x.about(0), 90 * (q + 1));
        }
        x.days(30);
        Check.due("account(1, 0, 0) on DAY 3000", x.account(1, 0, 0), 165);
        Check.due("about(1) on DAY 3000", x.about(1), 33);
    }

    private static void everyTownAndGood() {
        Check.sentence("each TOWN comes to owe what is OWED of each GOOD");
        TributeLists x = new TributeLists();
        for (int c = 0; c < 5; c++) {
            StringBuilder text = new StringBuilder();
            for (int t = 3 * c + 1; t <= 3 * c + 3; t++) {
                text.append("town ").append(t);
                for (int g = 0; g < 6; g++) {
                    text.append(g == 0 ? ":" : ",").append(g).append(' ').append(10 * t + g);
                }
                text.append(';');
            }
            Check.due("copy(" + c + ")", Check.read(x, c, text.toString()), 3);
        }
        x.days(90);
        for (int t = 1; t < 16; t++) {
            for (int g = 0; g < 6; g++) {
                Check.due("account(" + t + ", " + g + ", 0)", x.account(t, g, 0), 10 * t + g);
                Check.due("account(" + t + ", " + g + ", 2)", x.account(t, g, 2), 0);
            }
        }
    }

    private static void aboveZero() {
        Check.sentence("a DEBT of that QUARTER (if above 0)");
        TributeLists x = owing("town 1:0 0,1 1;");
        x.days(90);
        account(x, 1, 0, 0, 0, -1, 0);
        account(x, 1, 1, 1, 0, 0, 0);
        account(x, 1, 2, 0, 0, -1, 0);
        Check.read(x, 0, "town 1:0 3;");
        x.days(90);
        account(x, 1, 0, 3, 0, 1, 0);
        account(x, 1, 1, 1, 0, 0, 0);
    }

    private static void asTheCopiesAreThen() {
        Check.sentence("what is OWED as the COPIES are then");
        TributeLists x = owing("town 1:0 5;");
        x.days(89);
        Check.read(x, 0, "town 1:0 6;");
        x.days(1);
        account(x, 1, 0, 6, 0, 0, 0);
        Check.read(x, 1, "town 1:0 7;");
        account(x, 1, 0, 6, 0, 0, 0);
        x.days(90);
        account(x, 1, 0, 13, 0, 0, 0);
        Check.read(x, 0, "town 1:0 9;town");
        x.days(90);
        account(x, 1, 0, 20, 0, 0, 0);
        x.copy(0);
        x.copy(1);
        x.days(90);
        account(x, 1, 0, 20, 0, 0, 0);
    }

    private static void lastQuarter() {
        Check.sentence("QUARTERS: the last is 32, on DAY 2970");
        TributeLists x = owing("");
        Check.pass(x, 2969);
        Check.read(x, 0, "town 1:0 5;");
        account(x, 1, 0, 0, 0, -1, 0);
        x.days(1);
        account(x, 1, 0, 5, 0, 32, 0);
        x.send(1, 0, 2);
        x.days(30);
        account(x, 1, 0, 3, 0, 32, 2);
        Check.due("late(1)", x.late(1), 2 * 1 + 3 * 30);
    }

    /** A LINE of every other GOOD from the first one on, the same pieces of each. */
    private static String everyOther(int town, int first, int pieces) {
        StringBuilder line = new StringBuilder("town ").append(town);
        for (int g = first; g < 6; g += 2) {
            line.append(g == first ? ":" : ",").append(g).append(' ').append(pieces);
        }
        return line.append(';').toString();
    }

    private static void lastQuarterOfAll() {
        Check.sentence("account: the oldest QUARTER of which it owes, of each TOWN and GOOD for itself");
        TributeLists x = new TributeLists();
        Check.pass(x, 2879);
        for (int c = 0; c < 2; c++) {
            Check.read(x, c, everyOther(7 * c + 1, 1, 4) + everyOther(7 * c + 8, 1, 4));
        }
        x.days(1);
        for (int c = 2; c < 4; c++) {
            int town = 7 * (c - 2) + 1;
            Check.read(x, c, everyOther(town, 0, 9) + everyOther(town + 7, 0, 9));
        }
        x.days(90);
        // On DAY 2880 the odd GOODS of TOWNS 1, 8 and 15 came to owe, on 2970 all of theirs.
        for (int t = 1; t < 16; t++) {
            for (int g = 0; g < 6; g++) {
                int owes = t % 7 != 1 ? 0 : g % 2 == 0 ? 9 : 8;
                int oldest = owes == 0 ? -1 : owes == 9 ? 32 : 31;
                Check.due("account(" + t + ", " + g + ", 0)", x.account(t, g, 0), owes);
                Check.due("account(" + t + ", " + g + ", 2)", x.account(t, g, 2), oldest);
            }
        }
    }

    private static void severalInOneCall() {
        Check.sentence("days: each DAY is come to in turn");
        TributeLists x = owing("town 1:0 5;");
        x.days(85);
        x.road(0, 1, 10);
        x.send(1, 0, 3);
        x.road(0, 1, 3);
        x.send(1, 0, 1);
        x.days(100);
        // One piece comes on DAY 88, the DEBT on 90, three pieces on 95, the next DEBT on 180.
        account(x, 1, 0, 6, 0, 0, 4);
        Check.due("sending(0, 7)", x.sending(0, 7), 3);
        Check.due("sending(1, 7)", x.sending(1, 7), 0);
        Check.due("late(1)", x.late(1), 3 * 5 + 95 + 5 * 5);
    }

    private static void aheadOfNewDebts() {
        Check.sentence("on that DAY (as the clock comes to it, ahead of new DEBTS)");
        for (int come = 89; come <= 91; come++) {
            TributeLists x = owing("town 1:0 5;");
            x.days(come - 1);
            x.send(1, 0, 7);
            x.days(1);
            Check.pass(x, 92 - come);
            Check.due("sending(0, 7) of DAY " + come, x.sending(0, 7), come > 90 ? 5 : 0);
            account(x, 1, 0, 0, 2, -1, 5);
            Check.due("late(1) of DAY " + come, x.late(1), come > 90 ? 5 : 0);
        }
    }

    private static void ownDebtsAlone() {
        Check.sentence("they pay DEBTS of that TOWN and GOOD");
        TributeLists x = owing("town 1:0 5,1 5;town 2:0 5,1 5;");
        x.days(90);
        x.send(1, 0, 20);
        x.days(1);
        account(x, 1, 0, 0, 15, -1, 5);
        account(x, 1, 1, 5, 0, 0, 0);
        account(x, 2, 0, 5, 0, 0, 0);
        account(x, 2, 1, 5, 0, 0, 0);
        x.days(89);
        account(x, 1, 0, 0, 10, -1, 10);
        account(x, 1, 1, 10, 0, 0, 0);
        account(x, 2, 0, 10, 0, 0, 0);
    }

    private static void oldestFirst() {
        Check.sentence("they pay DEBTS, the oldest first");
        TributeLists x = owing("town 1:0 5;");
        Check.pass(x, 270);
        int[][] sent = {{4, 11, 0}, {1, 10, 1}, {4, 6, 1}, {2, 4, 2}, {3, 1, 2}, {1, 0, -1}};
        for (int[] s : sent) {
            x.send(1, 0, s[0]);
            x.days(1);
            account(x, 1, 0, s[1], 0, s[2], 15 - s[1]);
        }
        TributeLists y = owing("town 1:0 5;");
        Check.pass(y, 270);
        y.send(1, 0, 15);
        y.days(1);
        account(y, 1, 0, 0, 0, -1, 15);
        Check.due("sending(0, 7): all three at once", y.sending(0, 7), 15);
    }

    private static void whatIsMore() {
        Check.sentence("what is more is its GIFT of that GOOD");
        for (int n = 4; n <= 6; n++) {
            TributeLists x = owing("town 1:0 5;");
            x.days(90);
            x.send(1, 0, n);
            x.days(1);
            account(x, 1, 0, Math.max(0, 5 - n), Math.max(0, n - 5), n < 5 ? 0 : -1, Math.min(n, 5));
        }
        TributeLists y = owing("");
        y.send(2, 5, 9);
        y.days(1);
        account(y, 2, 5, 0, 9, -1, 0);
        account(y, 2, 4, 0, 0, -1, 0);
        account(y, 1, 5, 0, 0, -1, 0);
    }

    private static void asFarAsTheyGo() {
        Check.sentence("as a DEBT comes, GIFTS of that TOWN and GOOD pay it as far as they go");
        for (int n = 4; n <= 6; n++) {
            TributeLists x = owing("town 1:0 5;");
            x.send(1, 0, n);
            x.days(90);
            account(x, 1, 0, Math.max(0, 5 - n), Math.max(0, n - 5), n < 5 ? 0 : -1, Math.min(n, 5));
            x.days(90);
            account(x, 1, 0, 10 - n, 0, n < 5 ? 0 : 1, n);
        }
        TributeLists y = owing("town 1:0 5;");
        y.send(1, 1, 9);
        y.send(2, 0, 9);
        y.days(90);
        account(y, 1, 0, 5, 0, 0, 0);
        account(y, 1, 1, 0, 9, -1, 0);
        account(y, 2, 0, 0, 9, -1, 0);
    }

    private static void mostOwed() {
        Check.sentence("account 0 and 3 of 33 DEBTS of 9999");
        TributeLists x = owing("town 1:0 9999;");
        Check.pass(x, 2970);
        account(x, 1, 0, 329967, 0, 0, 0);
        for (int k = 0; k < 34; k++) {
            x.send(1, 0, 9999);
        }
        x.days(1);
        account(x, 1, 0, 0, 9999, -1, 329967);
        Check.due("sending(32, 7)", x.sending(32, 7), 9999);
        Check.due("sending(33, 7)", x.sending(33, 7), 0);
    }

    private static void mostGiven() {
        Check.sentence("account 1 of 100 SENDINGS of 9999");
        TributeLists x = owing("town 1:0 9999;");
        for (int k = 0; k < 100; k++) {
            x.send(1, 0, 9999);
        }
        x.days(1);
        account(x, 1, 0, 0, 999900, -1, 0);
        Check.pass(x, 2999);
        account(x, 1, 0, 0, 999900 - 329967, -1, 329967);
        Check.due("late(1)", x.late(1), 0);
    }

    private static void othersOfLate() {
        Check.sentence("late: NONE for others");
        TributeLists x = owing("town 1:0 5;town 15:5 6;");
        Check.due("late(1) at first", x.late(1), 0);
        Check.due("late(15) at first", x.late(15), 0);
        x.days(100);
        Check.due("late(1)", x.late(1), 50);
        Check.due("late(15)", x.late(15), 60);
        Check.due("late(14)", x.late(14), 0);
        Check.due("late(0): the city is no TOWN", x.late(0), -1);
        Check.dueForAll("late(*)", Check.beyond(1, 15), -1, x::late);
    }

    private static void lateFromItsComing() {
        Check.sentence("LATE: for pieces that aren't paid yet till the clock's DAY");
        TributeLists x = owing("town 1:0 5;");
        x.days(89);
        Check.due("late(1) on DAY 89", x.late(1), 0);
        x.days(1);
        Check.due("late(1) on DAY 90", x.late(1), 0);
        x.days(1);
        Check.due("late(1) on DAY 91", x.late(1), 5);
        x.days(88);
        Check.due("late(1) on DAY 179", x.late(1), 5 * 89);
        x.days(1);
        Check.due("late(1) on DAY 180", x.late(1), 5 * 90);
        x.days(1);
        Check.due("late(1) on DAY 181", x.late(1), 5 * 91 + 5);
    }

    private static void lateOfPaid() {
        Check.sentence("LATE: for each piece of a DEBT that was paid the days from its coming to its paying");
        TributeLists x = owing("town 1:0 5;");
        x.days(90);
        x.send(1, 0, 2);
        x.days(1);
        Check.due("late(1): two were paid on DAY 91", x.late(1), 5);
        x.days(1);
        Check.due("late(1): three go on", x.late(1), 2 + 6);
        x.send(1, 0, 3);
        x.days(1);
        Check.due("late(1): three were paid on DAY 93", x.late(1), 2 + 9);
        x.days(50);
        Check.due("late(1): none go on", x.late(1), 2 + 9);
        Check.due("late(2): another TOWN", x.late(2), 0);
    }

    private static void lateOfGifts() {
        Check.sentence("LATE: what GIFTS pay as the DEBT comes was never late");
        TributeLists x = owing("town 1:0 5;");
        x.send(1, 0, 3);
        x.days(90);
        x.days(10);
        Check.due("late(1)", x.late(1), 20);
        x.send(1, 0, 7);
        x.days(1);
        Check.due("late(1)", x.late(1), 22);
        x.days(99);
        Check.due("late(1): the GIFT paid the second DEBT", x.late(1), 22);
        Check.due("account(1, 0, 0)", x.account(1, 0, 0), 0);
    }

    private static void lateOfAllGoods() {
        Check.sentence("LATE of a TOWN: together, of all GOODS");
        TributeLists x = owing("town 1:0 1,1 2,2 3,3 4,4 5,5 6;town 2:0 100;");
        x.days(91);
        Check.due("late(1)", x.late(1), 21);
        Check.due("late(2)", x.late(2), 100);
        x.send(1, 5, 6);
        x.send(1, 0, 1);
        x.days(1);
        Check.due("late(1)", x.late(1), 42);
        x.days(1);
        Check.due("late(1)", x.late(1), 42 + 14);
    }

    private static void lateAboveInt() {
        Check.sentence("late: a long");
        String all = "town 1:0 9999,1 9999,2 9999,3 9999,4 9999,5 9999;";
        TributeLists x = owing(all);
        Check.pass(x, 3000);
        long each = 0;
        for (int q = 0; q < 33; q++) {
            each += 3000 - 90 * (q + 1);
        }
        Check.due("late(1) of unpaid DEBTS", x.late(1), 6 * 9999 * each);
        TributeLists y = owing(all);
        Check.pass(y, 2970);
        for (int k = 0; k < 99; k++) {
            y.send(1, k % 3, 9999);
        }
        y.days(1);
        Check.due("account(1, 0, 0)", y.account(1, 0, 0), 0);
        Check.due("late(1) of DEBTS of which half are paid", y.late(1), 6L * 9999 * (each - 33 * 29));
        y.days(29);
        Check.due("late(1) of DEBTS of which half go on", y.late(1), 3L * 9999 * (each - 33 * 29) + 3L * 9999 * each);
    }
}
