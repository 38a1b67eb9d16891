/** Promises 14 (send), 15 (sending), 16 (days) and 19 (piece). */
public final class SendingsTest {
    public static void main(String[] args) {
        wrongSendings();
        entries();
        fixedAtLeaving();
        room();
        clock();
        pieces();
        manyPieces();
        beyondTheClock();
        Check.finish();
    }

    private static void wrongSendings() {
        TributeLists x = new TributeLists();
        x.road(0, 1, 5);
        int[][] wrong = {{0, 0, 1}, {-1, 0, 1}, {16, 0, 1}, {2, 0, 1}, {1, -1, 1}, {1, 6, 1}, {1, 0, 0}, {1, 0, -1}, {1, 0, 10000}};
        for (int[] w : wrong) {
            Check.due("send(" + w[0] + ", " + w[1] + ", " + w[2] + ")", x.send(w[0], w[1], w[2]), -1);
        }
        Check.due("about(2)", x.about(2), 0);
        Check.due("sending(0, 0)", x.sending(0, 0), -1);
        Check.due("send(1, 0, 1)", x.send(1, 0, 1), 0);
        Check.due("send(1, 5, 9999)", x.send(1, 5, 9999), 1);
        int[][] others = {{-1, 0}, {2, 0}, {0, -1}, {0, 8}, {1, 8}, {99, 0}, {100, 0}, {Integer.MAX_VALUE, 0}, {Integer.MIN_VALUE, 0}};
        for (int[] w : others) {
            Check.due("sending(" + w[0] + ", " + w[1] + ")", x.sending(w[0], w[1]), -1);
        }
    }

    private static void row(TributeLists x, int k, int... want) {
        for (int what = 0; what < want.length; what++) {
            Check.due("sending(" + k + ", " + what + ")", x.sending(k, what), want[what]);
        }
    }

    private static void entries() {
        TributeLists x = new TributeLists();
        x.road(0, 1, 5);
        x.road(1, 2, 4);
        Check.read(x, 0, "town 2:3 6;");
        x.days(88);
        Check.due("send(2, 3, 5)", x.send(2, 3, 5), 0);
        row(x, 0, 2, 3, 5, 3, 88, 97, 0, 0);
        x.days(8);
        row(x, 0, 2, 3, 5, 3, 88, 97, 0, 0);
        Check.due("send(2, 3, 3)", x.send(2, 3, 3), 1);
        x.days(1);
        row(x, 0, 2, 3, 5, 3, 88, 97, 1, 5);
        row(x, 1, 2, 3, 3, 2, 96, 105, 0, 0);
        x.days(100);
        row(x, 0, 2, 3, 5, 3, 88, 97, 1, 5);
        row(x, 1, 2, 3, 3, 2, 96, 105, 1, 1);
        // The gift of two paid of the second quarter's debt; that isn't told as paid when it came.
        Check.due("account(2, 3, 3)", x.account(2, 3, 3), 8);
    }

    private static void fixedAtLeaving() {
        TributeLists x = new TributeLists();
        x.road(0, 1, 5);
        x.send(1, 0, 10);
        x.road(0, 1, 0);
        x.weight(0, 1);
        x.weight(-1, 100);
        row(x, 0, 1, 0, 10, 5, 0, 5, 0, 0);
        Check.due("send(1, 0, 10) as it is far", x.send(1, 0, 10), -1);
        x.road(0, 1, 2);
        Check.due("send(1, 0, 10)", x.send(1, 0, 10), 1);
        row(x, 1, 1, 0, 10, 1, 0, 2, 0, 0);
        x.days(2);
        row(x, 1, 1, 0, 10, 1, 0, 2, 1, 0);
        row(x, 0, 1, 0, 10, 5, 0, 5, 0, 0);
        x.days(3);
        row(x, 0, 1, 0, 10, 5, 0, 5, 1, 0);
    }

    private static void room() {
        TributeLists x = new TributeLists();
        x.road(0, 1, 1);
        for (int k = 0; k < 100; k++) {
            Check.due("send no. " + k, x.send(1, k % 6, k + 1), k);
        }
        Check.due("send no. 100", x.send(1, 0, 1), -1);
        Check.due("about(2)", x.about(2), 100);
        x.days(1);
        Check.due("about(3)", x.about(3), 5050);
        Check.due("send no. 100 as all are stored", x.send(1, 0, 1), -1);
        Check.due("sending(99, 2)", x.sending(99, 2), 100);
        Check.due("sending(100, 2)", x.sending(100, 2), -1);
        Check.due("piece(5049)", x.piece(5049), 99);
        Check.due("piece(5050)", x.piece(5050), -1);
    }

    private static void clock() {
        TributeLists x = new TributeLists();
        Check.due("days(0)", x.days(0), -1);
        Check.due("days(-1)", x.days(-1), -1);
        Check.due("days(101)", x.days(101), -1);
        Check.due("days(min)", x.days(Integer.MIN_VALUE), -1);
        Check.due("days(max)", x.days(Integer.MAX_VALUE), -1);
        Check.due("about(0)", x.about(0), 0);
        Check.due("days(1)", x.days(1), 1);
        for (int k = 1; k < 30; k++) {
            Check.due("days(100)", x.days(100), 100 * k + 1);
        }
        Check.due("days(100) beyond 3000", x.days(100), -1);
        Check.due("about(0)", x.about(0), 2901);
        Check.due("days(99)", x.days(99), 3000);
        Check.due("days(1) beyond 3000", x.days(1), -1);
        Check.due("about(0)", x.about(0), 3000);
        Check.due("about(1)", x.about(1), 33);
    }

    private static void pieces() {
        TributeLists x = new TributeLists();
        x.road(0, 1, 6);
        x.road(0, 2, 2);
        x.road(0, 3, 6);
        Check.due("piece(0) of an empty store", x.piece(0), -1);
        x.send(1, 0, 3);
        x.send(2, 1, 2);
        x.send(3, 2, 1);
        x.days(5);
        Check.due("piece(0)", x.piece(0), 1);
        Check.due("piece(1)", x.piece(1), 1);
        Check.due("piece(2)", x.piece(2), -1);
        x.days(1);
        int[] want = {1, 1, 0, 0, 0, 2, -1};
        for (int i = 0; i < want.length; i++) {
            Check.due("piece(" + i + ")", x.piece(i), want[i]);
        }
        Check.due("piece(-1)", x.piece(-1), -1);
        Check.due("piece(min)", x.piece(Integer.MIN_VALUE), -1);
        Check.due("piece(max)", x.piece(Integer.MAX_VALUE), -1);
        Check.due("about(3)", x.about(3), 6);
    }

    private static void manyPieces() {
        TributeLists x = new TributeLists();
        x.road(0, 1, 1);
        for (int k = 0; k < 100; k++) {
            x.send(1, 0, 9999);
        }
        x.days(1);
        Check.due("about(3)", x.about(3), 999900);
        Check.due("piece(999899)", x.piece(999899), 99);
        Check.due("piece(999900)", x.piece(999900), -1);
        Check.due("piece(9998)", x.piece(9998), 0);
        Check.due("piece(9999)", x.piece(9999), 1);
        Check.due("account(1, 0, 1)", x.account(1, 0, 1), 999900);
    }

    private static void beyondTheClock() {
        TributeLists x = new TributeLists();
        x.road(0, 1, 30);
        Check.pass(x, 2980);
        Check.due("send(1, 0, 1)", x.send(1, 0, 1), 0);
        Check.due("sending(0, 5)", x.sending(0, 5), 3010);
        x.road(0, 1, 20);
        x.send(1, 0, 1);
        Check.due("days(20)", x.days(20), 3000);
        Check.due("sending(0, 6)", x.sending(0, 6), 0);
        Check.due("sending(1, 6)", x.sending(1, 6), 1);
    }
}
