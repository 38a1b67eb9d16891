import java.util.LinkedHashMap;
import java.util.Map;

/** That a refused call changes nothing that a later call shows, for every call and what it refuses; and nor does a question. */
public final class RefusedTest {
    private static final Map<String, Unchanged.Calls> PASTS = new LinkedHashMap<>();

    public static void main(String[] args) {
        PASTS.put("a new object", x -> { });
        PASTS.put("a fresh fault", RefusedTest::withFault);
        PASTS.put("an object amid its work", RefusedTest::amid);
        PASTS.put("a full object", RefusedTest::full);
        roads();
        weights();
        tape();
        copies();
        noSuchCopy();
        sendings();
        fullSendings();
        clock();
        clockAtItsEnd();
        markets();
        fullMarkets();
        barters();
        yields();
        wrongQuestions();
        questions();
        Check.finish();
    }

    private static void withFault(TributeLists x) {
        x.road(0, 1, 4);
        Check.read(x, 0, "town 1:0 6;");
        Check.read(x, 1, "town 1:0 7;town 1:0 8;");
        Check.tape(x, "town 1:0 9;town 2");
    }

    /** Something of each kind, paid and owed, come and on its way, with a text on the tape. */
    private static void amid(TributeLists x) {
        x.road(0, 1, 4);
        x.road(1, 2, 5);
        x.road(0, 3, 30);
        x.road(14, 15, 2);
        x.weight(0, 7);
        x.weight(5, 50);
        x.weight(-1, 40);
        Check.read(x, 0, "town 1:0 6,1 4;town 2:0 3;town 15:5 9999;");
        Check.read(x, 1, "town 1:0 7;town 3:0 5;");
        Check.read(x, 4, "town 1:0 6;town 2:0 4;");
        x.send(1, 0, 9);
        x.send(2, 0, 5);
        x.days(90);
        x.send(2, 0, 2);
        x.days(20);
        x.send(1, 1, 3);
        x.send(3, 0, 20);
        x.days(4);
        x.send(1, 0, 8);
        x.market(0, 3, 1, 2);
        x.market(1, 2, 5, 5);
        x.market(0, 10, 5, 9);
        x.market(5, 1, 2, 1);
        x.barter(0, 50, 2);
        x.yields(1, 3);
        x.yields(2, 10000);
        x.yields(15, 77);
        Check.tape(x, "town 1:0 8;town 3:0 1;");
    }

    /** Nothing more of any kind is taken: 100 SENDINGS, 20 MARKETS, 300 bytes, DAY 3000. */
    private static void full(TributeLists x) {
        for (int t = 1; t < 16; t++) {
            x.road(0, t, 2 * t);
        }
        for (int c = 0; c < 5; c++) {
            Check.read(x, c, "town 1:0 " + (c + 1) / 2 + ";town 2:0 3;");
        }
        for (int k = 0; k < 99; k++) {
            x.send(1 + k % 15, k % 6, 1 + k % 7);
        }
        for (int k = 0; k < 20; k++) {
            x.market(k % 6, 1 + k % 5, (k + 1 + k / 6) % 6, 1 + k % 9);
        }
        x.barter(0, 9999, 5);
        for (int t = 1; t < 16; t++) {
            x.yields(t, 600 * t);
        }
        Check.pass(x, 2980);
        x.send(15, 0, 4);
        Check.pass(x, 20);
        Check.tape(x, "town 1:0 7;" + " ".repeat(289));
    }

    private static void refused(String past, String call, Unchanged.Calls calls) {
        Unchanged.by(call + " of " + past, PASTS.get(past), calls);
    }

    private static void refusedOfAll(String call, Unchanged.Calls calls) {
        for (String past : PASTS.keySet()) {
            refused(past, call, calls);
        }
    }

    private static void roads() {
        Check.sentence("road: false, and nothing is changed");
        for (int v : Check.beyond(0, 15)) {
            refusedOfAll("road(" + v + ", 1, 1)", x -> x.road(v, 1, 1));
            refusedOfAll("road(1, " + v + ", 0)", x -> x.road(1, v, 0));
        }
        for (int v : Check.beyond(0, 30)) {
            refusedOfAll("road(0, 1, " + v + ")", x -> x.road(0, 1, v));
        }
        refusedOfAll("road of one PLACE", x -> {
            for (int p = 0; p < 16; p++) {
                x.road(p, p, p);
            }
        });
    }

    private static void weights() {
        Check.sentence("weight: false, and nothing is changed");
        for (int v : Check.beyond(1, 50)) {
            refusedOfAll("weight(0, " + v + ")", x -> x.weight(0, v));
            refusedOfAll("weight(5, " + v + ")", x -> x.weight(5, v));
        }
        for (int v : Check.beyond(1, 100)) {
            refusedOfAll("weight(-1, " + v + ")", x -> x.weight(-1, v));
        }
        for (int v : Check.beyond(-1, 5)) {
            refusedOfAll("weight(" + v + ", 1)", x -> x.weight(v, 1));
        }
    }

    private static void tape() {
        Check.sentence("feed and end: NONE, and nothing is done");
        refused("a full object", "feed", x -> x.feed(-1, -1, -1, -1, -1));
        for (int v : Check.beyond(0, 300)) {
            refusedOfAll("end(" + v + ")", x -> x.end(v));
        }
        refused("a new object", "end(1)", x -> x.end(1));
        refused("an object amid its work", "end(23)", x -> x.end(23));
        refused("a fresh fault", "end(18)", x -> x.end(18));
    }

    private static void copies() {
        Check.sentence("copy: NONE: it has a FAULT, the former one stays");
        String[] faults = {"town 1:0 5;town 2:1 5", "town 2:0 5;town 2:0 5;", "town 3:0 5,1 10000;", "#"};
        for (String text : faults) {
            for (int k = 0; k < 5; k++) {
                int c = k;
                // The tape and the latest FAULT are the text's own; all else is as it would be without it.
                Unchanged.by("copy(" + c + ") of <" + text + ">", x -> {
                    amid(x);
                    Check.read(x, 2, text);
                }, x -> Check.read(x, c, text));
            }
        }
    }

    private static void noSuchCopy() {
        Check.sentence("copy: NONE, (the tape stays) there is no such COPY");
        for (int v : Check.beyond(0, 4)) {
            refusedOfAll("copy(" + v + ")", x -> x.copy(v));
        }
    }

    private static void sendings() {
        Check.sentence("send: NONE, and nothing is changed");
        for (int v : Check.beyond(1, 15)) {
            refusedOfAll("send(" + v + ", 0, 1)", x -> x.send(v, 0, 1));
        }
        for (int v : Check.beyond(0, 5)) {
            refusedOfAll("send(1, " + v + ", 1)", x -> x.send(1, v, 1));
        }
        for (int v : Check.beyond(1, 9999)) {
            refusedOfAll("send(1, 0, " + v + ")", x -> x.send(1, 0, v));
        }
        refused("an object amid its work", "send(15, 0, 1) as it is FAR", x -> x.send(15, 0, 1));
        refused("a new object", "send(1, 0, 1) as it is FAR", x -> x.send(1, 0, 1));
    }

    private static void fullSendings() {
        Check.sentence("send: NONE if there are 100, and nothing is changed");
        refused("a full object", "send(1, 0, 9999)", x -> x.send(1, 0, 9999));
        refused("a full object", "send(15, 5, 1)", x -> x.send(15, 5, 1));
        Unchanged.by("send(1, 0, 9999) with 100", RefusedTest::hundredUnderway, x -> x.send(1, 0, 9999));
    }

    private static void hundredUnderway(TributeLists x) {
        x.road(0, 1, 9);
        Check.read(x, 0, "town 1:0 70;");
        x.days(85);
        for (int k = 0; k < 100; k++) {
            x.send(1, 0, 1);
        }
    }

    private static void clock() {
        Check.sentence("days: NONE, and nothing is changed");
        for (int v : Check.beyond(1, 100)) {
            refusedOfAll("days(" + v + ")", x -> x.days(v));
        }
    }

    private static void clockAtItsEnd() {
        Check.sentence("days: NONE beyond 3000, and nothing is changed");
        refused("a full object", "days(1)", x -> x.days(1));
        refused("a full object", "days(100)", x -> x.days(100));
        Unchanged.by("days(51) with 50 left", x -> {
            x.road(0, 1, 10);
            Check.pass(x, 2950);
            Check.read(x, 0, "town 1:0 70;");
            x.send(1, 0, 9);
        }, x -> x.days(51));
    }

    private static void markets() {
        Check.sentence("market: NONE, and nothing is changed");
        for (int v : Check.beyond(0, 5)) {
            refusedOfAll("market(" + v + ", 1, 0, 99)", x -> x.market(v, 1, 0, 99));
            refusedOfAll("market(0, 1, " + v + ", 99)", x -> x.market(0, 1, v, 99));
        }
        for (int v : Check.beyond(1, 99)) {
            refusedOfAll("market(0, " + v + ", 1, 99)", x -> x.market(0, v, 1, 99));
            refusedOfAll("market(0, 1, 1, " + v + ")", x -> x.market(0, 1, 1, v));
        }
        refusedOfAll("market(3, 1, 3, 99)", x -> x.market(3, 1, 3, 99));
    }

    private static void fullMarkets() {
        Check.sentence("market: NONE if there are 20, and nothing is changed");
        for (int k = 0; k < 30; k++) {
            int from = k / 5;
            int to = (from + 1 + k % 5) % 6;
            refused("a full object", "market(" + from + ", 1, " + to + ", 99)", x -> x.market(from, 1, to, 99));
        }
    }

    private static void barters() {
        Check.sentence("barter: NONE, and the latest that told a number stays");
        for (int v : Check.beyond(0, 5)) {
            refusedOfAll("barter(" + v + ", 1, 1)", x -> x.barter(v, 1, 1));
            refusedOfAll("barter(0, 1, " + v + ")", x -> x.barter(0, 1, v));
        }
        for (int v : Check.beyond(1, 9999)) {
            refusedOfAll("barter(0, " + v + ", 1)", x -> x.barter(0, v, 1));
        }
        refusedOfAll("barter(0, 1, 0)", x -> x.barter(0, 1, 0));
        refused("an object amid its work", "barter(2, 9, 0) without a way", x -> x.barter(2, 9, 0));
        refused("a new object", "barter(0, 9, 1) without a way", x -> x.barter(0, 9, 1));
    }

    private static void yields() {
        Check.sentence("yields: false, and nothing is changed");
        for (int v : Check.beyond(1, 15)) {
            refusedOfAll("yields(" + v + ", 9)", x -> x.yields(v, 9));
        }
        for (int v : Check.beyond(0, 10000)) {
            refusedOfAll("yields(1, " + v + ")", x -> x.yields(1, v));
        }
    }

    private static void wrongQuestions() {
        Check.sentence("what is asked wrongly changes nothing");
        for (int v : Check.beyond(0, 9999)) {
            refusedOfAll("questions with " + v, x -> {
                x.way(v, 0);
                x.way(0, v);
                x.carriers(v, 1);
                x.carriers(0, v);
                x.fault(v);
                x.tells(v, 1, 0);
                x.tells(0, v, 0);
                x.tells(0, 1, v);
                x.owed(v, 0);
                x.owed(1, v);
                x.quarrel(v, 0);
                x.quarrel(1, v);
                x.sending(v, 0);
                x.sending(0, v);
                x.account(v, 0, 0);
                x.account(1, v, 0);
                x.account(1, 0, v);
                x.late(v);
                x.piece(v);
                x.bartered(v);
                x.parted(1, v);
                x.about(v);
            });
        }
    }

    private static void questions() {
        Check.sentence("what is only asked changes nothing");
        refusedOfAll("questions", x -> {
            x.way(3, 15);
            x.way(15, 0);
            x.carriers(5, 9999);
            x.fault(0);
            x.fault(1);
            x.tells(4, 15, 5);
            x.owed(1, 0);
            x.quarrel(1, 0);
            x.quarrels();
            x.sending(0, 7);
            x.account(1, 0, 2);
            x.late(1);
            x.piece(0);
            x.bartered(0);
            x.parted(100000, 1);
            x.about(7);
            x.about(15);
        });
    }
}
