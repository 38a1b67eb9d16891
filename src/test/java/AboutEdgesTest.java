/** A test for each sentence on what a new object has, and on the bounds of about() (promises 1 and 25). */
public final class AboutEdgesTest {
    public static void main(String[] args) {
        noRoads();
        noCopies();
        noMarkets();
        dayZero();
        nothingElse();
        othersOfAbout();
        clockAndQuarters();
        sendingsAndPieces();
        marketsCounted();
        loadAndWeights();
        bytesOfTheTape();
        copiesRead();
        lastCall();
        twoObjects();
        Check.finish();
    }

    private static void noRoads() {
        Check.sentence("a new object: no ROADS");
        TributeLists x = new TributeLists();
        for (int a = 0; a < 16; a++) {
            for (int b = 0; b < 16; b++) {
                Check.due("way(" + a + ", " + b + ")", x.way(a, b), a == b ? 0 : -1);
            }
        }
        for (int t = 1; t < 16; t++) {
            Check.due("send(" + t + ", 0, 1)", x.send(t, 0, 1), -1);
        }
    }

    private static void noCopies() {
        Check.sentence("a new object: no COPIES");
        for (int c = 0; c < 5; c++) {
            TributeLists x = new TributeLists();
            for (int t = 1; t < 16; t++) {
                for (int g = 0; g < 6; g++) {
                    Check.due("tells(" + c + ", " + t + ", " + g + ")", x.tells(c, t, g), -1);
                    Check.due("owed(" + t + ", " + g + ")", x.owed(t, g), 0);
                    Check.due("quarrel(" + t + ", " + g + ")", x.quarrel(t, g), 0);
                }
            }
            Check.due("quarrels()", x.quarrels(), 0);
            Check.due("about(7)", x.about(7), 0);
            Check.due("fault(0)", x.fault(0), -1);
            Check.due("fault(1)", x.fault(1), -1);
        }
    }

    private static void noMarkets() {
        Check.sentence("a new object: no MARKETS");
        TributeLists x = new TributeLists();
        for (int from = 0; from < 6; from++) {
            for (int to = 0; to < 6; to++) {
                Check.due("barter(" + from + ", 9999, " + to + ")", x.barter(from, 9999, to), -1);
            }
        }
        Check.due("bartered(0)", x.bartered(0), -1);
        Check.due("about(4)", x.about(4), 0);
        Check.due("market(0, 1, 1, 1)", x.market(0, 1, 1, 1), 0);
    }

    private static void dayZero() {
        Check.sentence("a new object: DAY 0");
        TributeLists x = new TributeLists();
        Check.due("about(0)", x.about(0), 0);
        Check.due("about(1)", x.about(1), 0);
        Check.due("days(1)", x.days(1), 1);
    }

    private static void nothingElse() {
        Check.sentence("a new object: nothing else yet");
        TributeLists x = new TributeLists();
        for (int t = 1; t < 16; t++) {
            Check.due("late(" + t + ")", x.late(t), 0);
            Check.due("parted(5, " + t + ")", x.parted(5, t), -1);
            for (int g = 0; g < 6; g++) {
                Check.due("account(" + t + ", " + g + ", 0)", x.account(t, g, 0), 0);
                Check.due("account(" + t + ", " + g + ", 1)", x.account(t, g, 1), 0);
                Check.due("account(" + t + ", " + g + ", 2)", x.account(t, g, 2), -1);
                Check.due("account(" + t + ", " + g + ", 3)", x.account(t, g, 3), 0);
            }
        }
        Check.due("about(2)", x.about(2), 0);
        Check.due("about(3)", x.about(3), 0);
        Check.due("about(6)", x.about(6), 0);
        Check.due("piece(0)", x.piece(0), -1);
        Check.due("sending(0, 0)", x.sending(0, 0), -1);
    }

    private static void othersOfAbout() {
        Check.sentence("about: NONE for others");
        TributeLists x = new TributeLists();
        Check.due("about(8)", x.about(8), -1);
        Check.due("about(9)", x.about(9), -1);
        Check.due("about(10)", x.about(10), 10);
        Check.due("about(15)", x.about(15), 10);
        Check.dueForAll("about(*)", Check.beyond(0, 15), -1, x::about);
        Check.dueForAll("about(*)", new int[] {-10, -9, -5, Integer.MIN_VALUE + 10, Integer.MIN_VALUE + 15, Integer.MAX_VALUE - 5}, -1, x::about);
    }

    private static void clockAndQuarters() {
        Check.sentence("about: 0 the clock's DAY, 1 QUARTERS that have come");
        TributeLists x = new TributeLists();
        int[] steps = {89, 1, 89, 1, 1};
        int[] quarters = {0, 1, 1, 2, 2};
        int day = 0;
        for (int k = 0; k < steps.length; k++) {
            x.days(steps[k]);
            day += steps[k];
            Check.due("about(0)", x.about(0), day);
            Check.due("about(1) on DAY " + day, x.about(1), quarters[k]);
        }
        Check.pass(x, 2969 - day);
        Check.due("about(1) on DAY 2969", x.about(1), 32);
        x.days(1);
        Check.due("about(1) on DAY 2970", x.about(1), 33);
        x.days(30);
        Check.due("about(1) on DAY 3000", x.about(1), 33);
        Check.due("about(0)", x.about(0), 3000);
    }

    private static void sendingsAndPieces() {
        Check.sentence("about: 2 SENDINGS, 3 PIECES");
        TributeLists x = new TributeLists();
        x.road(0, 1, 2);
        x.road(0, 2, 4);
        x.send(1, 0, 7);
        x.send(2, 5, 9999);
        x.send(3, 5, 9999);
        Check.due("about(2)", x.about(2), 2);
        Check.due("about(3)", x.about(3), 0);
        x.days(2);
        Check.due("about(3)", x.about(3), 7);
        x.days(2);
        Check.due("about(3)", x.about(3), 10006);
        Check.due("about(2)", x.about(2), 2);
    }

    private static void marketsCounted() {
        Check.sentence("about: 4 MARKETS");
        TributeLists x = new TributeLists();
        for (int k = 1; k <= 22; k++) {
            x.market(0, 1, 1, 1);
            Check.due("about(4)", x.about(4), Math.min(k, 20));
        }
    }

    private static void loadAndWeights() {
        Check.sentence("about: 5 LOAD, 10 + good: its WEIGHT");
        TributeLists x = new TributeLists();
        x.weight(-1, 77);
        for (int g = 0; g < 6; g++) {
            x.weight(g, 20 + g);
        }
        Check.due("about(5)", x.about(5), 77);
        for (int g = 0; g < 6; g++) {
            Check.due("about(10 + " + g + ")", x.about(10 + g), 20 + g);
        }
    }

    private static void bytesOfTheTape() {
        Check.sentence("about: 6 bytes of the tape");
        TributeLists x = new TributeLists();
        for (int k = 1; k <= 17; k++) {
            x.feed(0, 0, 0, 0, 0);
            Check.due("about(6)", x.about(6), Math.min(300, 20 * k));
        }
        x.end(299);
        Check.due("about(6)", x.about(6), 299);
        x.end(1);
        Check.due("about(6)", x.about(6), 1);
        x.copy(0);
        Check.due("about(6)", x.about(6), 0);
    }

    private static void copiesRead() {
        Check.sentence("about: 7 COPIES that were read");
        TributeLists x = new TributeLists();
        x.copy(3);
        Check.due("about(7): an empty text too", x.about(7), 1);
        x.copy(3);
        Check.due("about(7): the same COPY again", x.about(7), 1);
        Check.read(x, 0, "x");
        Check.due("about(7): a FAULT", x.about(7), 1);
        x.copy(5);
        x.copy(-1);
        Check.due("about(7): no such COPY", x.about(7), 1);
        int[] order = {0, 4, 1, 2};
        for (int k = 0; k < order.length; k++) {
            x.copy(order[k]);
            Check.due("about(7)", x.about(7), k + 2);
        }
        Check.read(x, 3, "x");
        Check.due("about(7): a FAULT takes none away", x.about(7), 5);
    }

    private static void lastCall() {
        Check.sentence("an object is used for at most 512 calls");
        TributeLists x = new TributeLists();
        x.road(0, 1, 1);
        int calls = 1;
        for (int k = 0; calls < 509; k++, calls++) {
            x.copy(k % 5);
        }
        Check.due("call 510: send(1, 0, 9)", x.send(1, 0, 9), 0);
        Check.due("call 511: days(1)", x.days(1), 1);
        Check.due("call 512: account(1, 0, 1)", x.account(1, 0, 1), 9);
    }

    private static void twoObjects() {
        Check.sentence("a new object has nothing of another one");
        TributeLists x = new TributeLists();
        x.road(0, 1, 1);
        x.weight(0, 50);
        x.weight(-1, 50);
        Check.read(x, 0, "town 1:0 5;");
        x.feed(0, 0, 0, 0, 0);
        x.days(90);
        x.send(1, 0, 9);
        x.days(1);
        x.market(0, 1, 1, 1);
        x.barter(0, 1, 1);
        x.yields(1, 1);
        TributeLists y = new TributeLists();
        int[] want = {0, 0, 0, 0, 0, 23, 0, 0, -1, -1, 10};
        for (int what = 0; what < want.length; what++) {
            Check.due("about(" + what + ")", y.about(what), want[what]);
        }
        Check.due("way(0, 1)", y.way(0, 1), -1);
        Check.due("tells(0, 1, 0)", y.tells(0, 1, 0), -1);
        Check.due("fault(0)", y.fault(0), -1);
        Check.due("account(1, 0, 0)", y.account(1, 0, 0), 0);
        Check.due("late(1)", y.late(1), 0);
        Check.due("piece(0)", y.piece(0), -1);
        Check.due("bartered(0)", y.bartered(0), -1);
        Check.due("parted(1, 1)", y.parted(1, 1), -1);
    }
}
