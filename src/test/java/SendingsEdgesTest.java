/** A test for each sentence on the bounds of SENDINGS, the clock and PIECES (promises 14, 15, 16 and 19). */
public final class SendingsEdgesTest {
    public static void main(String[] args) {
        townsOfSend();
        goodsOfSend();
        piecesOfSend();
        farOfSend();
        hundred();
        refusedTakesNoNumber();
        numbersOfSending();
        whatOfSending();
        fewestCarriers();
        waysAsTheyAre();
        nearestAndFarthest();
        storedOnItsDay();
        paidAsItCame();
        byTheirNumbers();
        boundsOfDays();
        beyondTheLastDay();
        refusedDaysBringNothing();
        sentAtTheEnd();
        noPieces();
        firstAndLastPiece();
        numberedAsStored();
        mostPieces();
        Check.finish();
    }

    private static TributeLists withRoads() {
        TributeLists x = new TributeLists();
        for (int t = 1; t < 16; t++) {
            x.road(0, t, 1);
        }
        return x;
    }

    private static void row(TributeLists x, int k, int... want) {
        for (int what = 0; what < want.length; what++) {
            Check.due("sending(" + k + ", " + what + ")", x.sending(k, what), want[what]);
        }
    }

    private static void townsOfSend() {
        Check.sentence("send: NONE: no such TOWN");
        TributeLists x = withRoads();
        Check.due("send(1, 0, 1)", x.send(1, 0, 1), 0);
        Check.due("send(15, 0, 1)", x.send(15, 0, 1), 1);
        Check.due("send(0, 0, 1): the city is none", x.send(0, 0, 1), -1);
        Check.dueForAll("send(*, 0, 1)", Check.beyond(1, 15), -1, v -> x.send(v, 0, 1));
        Check.due("about(2)", x.about(2), 2);
    }

    private static void goodsOfSend() {
        Check.sentence("send: NONE: no such GOOD");
        TributeLists x = withRoads();
        Check.due("send(1, 0, 1)", x.send(1, 0, 1), 0);
        Check.due("send(1, 5, 1)", x.send(1, 5, 1), 1);
        Check.dueForAll("send(1, *, 1)", Check.beyond(0, 5), -1, v -> x.send(1, v, 1));
        Check.dueForAll("send(15, *, 1)", Check.beyond(0, 5), -1, v -> x.send(15, v, 1));
        Check.due("about(2)", x.about(2), 2);
    }

    private static void piecesOfSend() {
        Check.sentence("send: NONE: no such pieces (1 .. 9999)");
        TributeLists x = withRoads();
        Check.due("send(1, 0, 1)", x.send(1, 0, 1), 0);
        Check.due("send(1, 0, 9999)", x.send(1, 0, 9999), 1);
        Check.due("sending(0, 2)", x.sending(0, 2), 1);
        Check.due("sending(1, 2)", x.sending(1, 2), 9999);
        Check.dueForAll("send(1, 0, *)", Check.beyond(1, 9999), -1, v -> x.send(1, 0, v));
        Check.due("about(2)", x.about(2), 2);
        x.days(1);
        Check.due("about(3)", x.about(3), 10000);
    }

    private static void farOfSend() {
        Check.sentence("send: NONE: it is FAR");
        TributeLists x = new TributeLists();
        Check.due("send(1, 0, 1) without roads", x.send(1, 0, 1), -1);
        x.road(1, 2, 5);
        Check.due("send(1, 0, 1) with a road that doesn't come to the city", x.send(1, 0, 1), -1);
        x.road(2, 0, 5);
        Check.due("send(1, 0, 1) by two roads", x.send(1, 0, 1), 0);
        Check.due("sending(0, 5)", x.sending(0, 5), 10);
        x.road(2, 0, 0);
        Check.due("send(1, 0, 1) as one is none", x.send(1, 0, 1), -1);
        Check.due("about(2)", x.about(2), 1);
    }

    private static void hundred() {
        Check.sentence("send: NONE: there are 100");
        TributeLists x = withRoads();
        for (int k = 0; k < 100; k++) {
            Check.due("about(2)", x.about(2), k);
            Check.due("send no. " + k, x.send(1 + k % 15, k % 6, 1 + k), k);
        }
        Check.due("send with 100", x.send(1, 0, 1), -1);
        Check.due("about(2)", x.about(2), 100);
        row(x, 0, 1, 0, 1, 1, 0, 1, 0, 0);
        row(x, 99, 10, 3, 100, 50, 0, 1, 0, 0);
        x.days(1);
        Check.due("send with 100 that are STORED", x.send(1, 0, 1), -1);
        Check.due("about(2)", x.about(2), 100);
        Check.due("about(3)", x.about(3), 5050);
        row(x, 99, 10, 3, 100, 50, 0, 1, 1, 0);
    }

    private static void refusedTakesNoNumber() {
        Check.sentence("send: its number; one that is refused takes none");
        TributeLists x = new TributeLists();
        x.road(0, 1, 1);
        x.send(1, 0, 0);
        x.send(2, 0, 1);
        Check.due("send(1, 0, 1)", x.send(1, 0, 1), 0);
        x.send(1, 6, 1);
        x.send(0, 0, 1);
        Check.due("send(1, 0, 2)", x.send(1, 0, 2), 1);
        x.days(1);
        Check.due("about(3)", x.about(3), 3);
        Check.due("send(1, 0, 3): numbers go on behind what is STORED", x.send(1, 0, 3), 2);
    }

    private static void numbersOfSending() {
        Check.sentence("sending: NONE for others: no such SENDING");
        TributeLists x = withRoads();
        for (int what = 0; what < 8; what++) {
            Check.due("sending(0, " + what + ") without any", x.sending(0, what), -1);
        }
        x.send(7, 3, 9);
        x.send(8, 4, 10);
        Check.due("sending(0, 0)", x.sending(0, 0), 7);
        Check.due("sending(1, 0)", x.sending(1, 0), 8);
        for (int k : Check.beyond(0, 1)) {
            for (int what = 0; what < 8; what++) {
                Check.due("sending(" + k + ", " + what + ")", x.sending(k, what), -1);
            }
        }
        TributeLists y = withRoads();
        for (int k = 0; k < 100; k++) {
            y.send(1, 0, 1);
        }
        Check.due("sending(99, 0) of 100", y.sending(99, 0), 1);
        Check.dueForAll("sending(*, 0) of 100", Check.beyond(0, 99), -1, v -> y.sending(v, 0));
    }

    private static void whatOfSending() {
        Check.sentence("sending: 0 .. 7, NONE for others");
        TributeLists x = withRoads();
        x.send(15, 5, 9999);
        x.send(1, 0, 1);
        row(x, 0, 15, 5, 9999, 5000, 0, 1, 0, 0);
        row(x, 1, 1, 0, 1, 1, 0, 1, 0, 0);
        for (int k = 0; k < 2; k++) {
            int which = k;
            Check.dueForAll("sending(" + k + ", *)", Check.beyond(0, 7), -1, v -> x.sending(which, v));
        }
    }

    private static void fewestCarriers() {
        Check.sentence("a SENDING: CARRIERS (as few as can be) leave");
        TributeLists x = withRoads();
        x.weight(-1, 30);
        x.send(1, 0, 3);
        x.send(1, 0, 4);
        x.weight(0, 31);
        x.send(1, 0, 4);
        x.weight(0, 1);
        x.send(1, 0, 30);
        x.send(1, 0, 31);
        x.weight(0, 50);
        x.weight(-1, 1);
        x.send(1, 0, 9999);
        int[] want = {1, 2, 4, 1, 2, 9999};
        for (int k = 0; k < want.length; k++) {
            Check.due("sending(" + k + ", 3)", x.sending(k, 3), want[k]);
        }
    }

    private static void waysAsTheyAre() {
        Check.sentence("come WAY days later (by ROADS as they are)");
        TributeLists x = new TributeLists();
        x.road(0, 1, 10);
        x.send(1, 0, 1);
        x.road(0, 1, 3);
        x.send(1, 0, 2);
        x.road(0, 1, 0);
        Check.due("sending(0, 5)", x.sending(0, 5), 10);
        Check.due("sending(1, 5)", x.sending(1, 5), 3);
        x.days(2);
        Check.due("about(3) on DAY 2", x.about(3), 0);
        x.days(1);
        Check.due("about(3) on DAY 3", x.about(3), 2);
        x.days(6);
        Check.due("about(3) on DAY 9", x.about(3), 2);
        x.days(1);
        Check.due("about(3) on DAY 10", x.about(3), 3);
    }

    private static void nearestAndFarthest() {
        Check.sentence("on that DAY the pieces are STORED: the shortest WAY and the longest");
        TributeLists x = new TributeLists();
        for (int p = 0; p < 15; p++) {
            x.road(p, p + 1, 30);
        }
        x.send(15, 0, 5);
        x.road(0, 1, 1);
        x.send(1, 0, 7);
        Check.due("sending(0, 5)", x.sending(0, 5), 450);
        Check.due("sending(1, 5)", x.sending(1, 5), 1);
        x.days(1);
        Check.due("about(3) on DAY 1", x.about(3), 7);
        Check.pass(x, 448);
        Check.due("about(3) on DAY 449", x.about(3), 7);
        x.days(1);
        Check.due("about(3) on DAY 450", x.about(3), 12);
    }

    private static void storedOnItsDay() {
        Check.sentence("sending: 6 whether it is STORED (1, 0)");
        for (int at = 1; at <= 100; at++) {
            TributeLists x = new TributeLists();
            x.road(0, 1, 30);
            x.send(1, 0, 4);
            x.days(at);
            Check.due("sending(0, 6) behind days(" + at + ")", x.sending(0, 6), at >= 30 ? 1 : 0);
            Check.due("account(1, 0, 1) behind days(" + at + ")", x.account(1, 0, 1), at >= 30 ? 4 : 0);
        }
        TributeLists y = new TributeLists();
        y.road(0, 1, 5);
        y.send(1, 0, 4);
        y.days(100);
        y.days(100);
        Check.due("about(3): STORED once alone", y.about(3), 4);
    }

    private static void paidAsItCame() {
        Check.sentence("sending: 7 pieces that paid DEBTS (as it came)");
        TributeLists x = withRoads();
        Check.read(x, 0, "town 1:0 5;");
        x.days(89);
        x.send(1, 0, 1);
        x.days(1);
        x.send(1, 0, 3);
        x.send(1, 0, 1);
        x.send(1, 0, 1);
        x.send(1, 1, 1);
        x.send(2, 0, 1);
        x.days(1);
        int[] want = {0, 3, 1, 0, 0, 0};
        for (int k = 0; k < want.length; k++) {
            Check.due("sending(" + k + ", 7)", x.sending(k, 7), want[k]);
        }
        x.days(100);
        for (int k = 0; k < want.length; k++) {
            Check.due("sending(" + k + ", 7): a GIFT that pays later changes nothing", x.sending(k, 7), want[k]);
        }
        Check.due("account(1, 0, 3)", x.account(1, 0, 3), 6);
    }

    private static void byTheirNumbers() {
        Check.sentence("SENDINGS of one DAY by their numbers");
        TributeLists x = new TributeLists();
        Check.read(x, 0, "town 1:0 5;");
        x.road(0, 1, 10);
        x.days(90);
        x.send(1, 0, 4);
        x.days(9);
        x.road(0, 1, 1);
        x.send(1, 0, 4);
        x.send(1, 0, 4);
        x.days(1);
        int[] want = {4, 1, 0};
        for (int k = 0; k < 3; k++) {
            Check.due("sending(" + k + ", 7)", x.sending(k, 7), want[k]);
        }
        int[] pieces = {0, 0, 0, 0, 1, 1, 1, 1, 2, 2, 2, 2, -1};
        for (int i = 0; i < pieces.length; i++) {
            Check.due("piece(" + i + ")", x.piece(i), pieces[i]);
        }
    }

    private static void boundsOfDays() {
        Check.sentence("days: n DAYS go by (1 .. 100), NONE for others");
        TributeLists x = new TributeLists();
        Check.due("about(0) at first", x.about(0), 0);
        Check.dueForAll("days(*) on DAY 0", Check.beyond(1, 100), -1, x::days);
        Check.due("about(0)", x.about(0), 0);
        Check.due("days(1)", x.days(1), 1);
        Check.due("days(100)", x.days(100), 101);
        Check.dueForAll("days(*) on DAY 101", Check.beyond(1, 100), -1, x::days);
        Check.due("days(-101): not back to DAY 0", x.days(-101), -1);
        Check.due("about(0)", x.about(0), 101);
    }

    private static void beyondTheLastDay() {
        Check.sentence("days: NONE beyond 3000");
        for (int left = 0; left <= 100; left++) {
            TributeLists x = new TributeLists();
            Check.pass(x, 3000 - left);
            if (left < 100) {
                Check.due("days(" + (left + 1) + ") with " + left + " left", x.days(left + 1), -1);
            }
            Check.due("about(0)", x.about(0), 3000 - left);
            if (left > 0) {
                Check.due("days(" + left + ") with " + left + " left", x.days(left), 3000);
            }
            Check.due("days(1) on DAY 3000", x.days(1), -1);
            Check.due("days(100) on DAY 3000", x.days(100), -1);
            Check.dueForAll("days(*) on DAY 3000", Check.beyond(1, 100), -1, x::days);
            Check.due("about(0)", x.about(0), 3000);
        }
    }

    private static void refusedDaysBringNothing() {
        Check.sentence("days: NONE: nothing comes and nothing is owed");
        TributeLists x = withRoads();
        Check.read(x, 0, "town 1:0 5;");
        x.days(89);
        x.send(1, 0, 2);
        Check.dueForAll("days(*)", Check.beyond(1, 100), -1, x::days);
        Check.due("about(1)", x.about(1), 0);
        Check.due("about(3)", x.about(3), 0);
        Check.due("account(1, 0, 0)", x.account(1, 0, 0), 0);
        TributeLists y = withRoads();
        Check.pass(y, 2950);
        Check.read(y, 0, "town 1:0 5;");
        y.send(1, 0, 2);
        Check.due("days(51) on DAY 2950", y.days(51), -1);
        Check.due("about(3)", y.about(3), 0);
        Check.due("about(1)", y.about(1), 32);
        Check.due("account(1, 0, 0)", y.account(1, 0, 0), 0);
        Check.due("days(50) on DAY 2950", y.days(50), 3000);
        Check.due("about(3)", y.about(3), 2);
        Check.due("about(1)", y.about(1), 33);
        Check.due("account(1, 0, 0)", y.account(1, 0, 0), 3);
    }

    private static void sentAtTheEnd() {
        Check.sentence("DAYS 0 .. 3000: what comes on the last one, and what would come behind it");
        TributeLists x = new TributeLists();
        x.road(0, 1, 30);
        Check.pass(x, 2970);
        Check.due("send(1, 0, 3)", x.send(1, 0, 3), 0);
        x.days(1);
        Check.due("send(1, 0, 4)", x.send(1, 0, 4), 1);
        Check.due("days(29)", x.days(29), 3000);
        row(x, 0, 1, 0, 3, 2, 2970, 3000, 1, 0);
        row(x, 1, 1, 0, 4, 2, 2971, 3001, 0, 0);
        Check.due("send(1, 0, 5) on DAY 3000", x.send(1, 0, 5), 2);
        row(x, 2, 1, 0, 5, 3, 3000, 3030, 0, 0);
        Check.due("about(3)", x.about(3), 3);
    }

    private static void noPieces() {
        Check.sentence("piece: NONE if there is none such: the store is empty");
        TributeLists x = withRoads();
        int[] any = {0, 1, -1, Integer.MAX_VALUE, Integer.MIN_VALUE};
        Check.dueForAll("piece(*)", any, -1, x::piece);
        x.send(1, 0, 5);
        Check.dueForAll("piece(*) of what is on its way", any, -1, x::piece);
    }

    private static void firstAndLastPiece() {
        Check.sentence("piece: NONE if there is none such");
        TributeLists x = withRoads();
        x.send(1, 0, 1);
        x.days(1);
        Check.due("piece(0) of 1", x.piece(0), 0);
        Check.dueForAll("piece(*) of 1", Check.beyond(0, 0), -1, x::piece);
        x.send(1, 0, 9999);
        x.days(1);
        Check.due("piece(1)", x.piece(1), 1);
        Check.due("piece(9999)", x.piece(9999), 1);
        Check.dueForAll("piece(*) of 10000", Check.beyond(0, 9999), -1, x::piece);
    }

    private static void numberedAsStored() {
        Check.sentence("PIECES are numbered as they are STORED; each leads to its SENDING");
        TributeLists x = new TributeLists();
        x.road(0, 1, 3);
        x.road(0, 2, 2);
        x.road(0, 3, 1);
        Check.read(x, 0, "town 1:0 5;");
        x.days(88);
        x.send(1, 0, 1);
        x.send(2, 0, 2);
        x.send(3, 0, 1);
        int[][] want = {{2, -1}, {2, 1, 1, -1}, {2, 1, 1, 0, -1}};
        for (int[] row : want) {
            x.days(1);
            for (int i = 0; i < row.length; i++) {
                Check.due("piece(" + i + ") on DAY " + x.about(0), x.piece(i), row[i]);
            }
        }
    }

    private static void mostPieces() {
        Check.sentence("PIECES of 100 SENDINGS of 9999");
        TributeLists x = withRoads();
        for (int k = 0; k < 100; k++) {
            x.send(1 + k % 15, k % 6, 9999);
        }
        x.days(1);
        Check.due("about(3)", x.about(3), 999900);
        for (int k = 0; k < 100; k++) {
            Check.due("piece(" + 9999 * k + ")", x.piece(9999 * k), k);
            Check.due("piece(" + (9999 * k + 9998) + ")", x.piece(9999 * k + 9998), k);
        }
        Check.dueForAll("piece(*) of 999900", Check.beyond(0, 999899), -1, x::piece);
    }
}
