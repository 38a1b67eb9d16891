import java.util.ArrayList;
import java.util.List;

/**
 * Whether a call changes nothing that a later call shows: of two objects with the same past one gets that call too,
 * and both are asked the same from there on. Each part of what can be asked has objects of its own, as an object
 * answers at most 512 calls.
 */
final class Unchanged {
    /** Calls that make an object's past. */
    interface Calls {
        void on(TributeLists x);
    }

    private interface Ask {
        long of(TributeLists x);
    }

    private record Question(String name, Ask ask) { }

    private static final int AT_ONCE = 240;
    private static final List<List<Question>> PARTS = parts();

    private Unchanged() { }

    static void by(String call, Calls past, Calls refused) {
        for (List<Question> part : PARTS) {
            TributeLists left = new TributeLists();
            TributeLists right = new TributeLists();
            past.on(left);
            past.on(right);
            refused.on(right);
            for (Question q : part) {
                long got = q.ask.of(right);
                long want = q.ask.of(left);
                // Names are put together for what is wrong alone: there are millions of questions.
                if (got != want) {
                    Check.due(q.name + " behind " + call, got, want);
                }
            }
        }
    }

    private static List<List<Question>> parts() {
        List<Question> all = new ArrayList<>();
        placesAndGoods(all);
        lists(all);
        tribute(all);
        markets(all);
        List<List<Question>> parts = new ArrayList<>();
        for (int from = 0; from < all.size(); from += AT_ONCE) {
            parts.add(all.subList(from, Math.min(all.size(), from + AT_ONCE)));
        }
        parts.add(laterTape());
        parts.add(laterDays());
        parts.add(laterSendings());
        parts.add(laterMarkets());
        return parts;
    }

    private static void ask(List<Question> to, String name, Ask ask) {
        to.add(new Question(name, ask));
    }

    private static void placesAndGoods(List<Question> to) {
        for (int i = 0; i < 16; i++) {
            int a = i;
            ask(to, "about(" + a + ")", x -> x.about(a));
            for (int k = a + 1; k < 16; k++) {
                int b = k;
                ask(to, "way(" + a + ", " + b + ")", x -> x.way(a, b));
            }
        }
        for (int g = 0; g < 6; g++) {
            int good = g;
            ask(to, "carriers(" + good + ", 9999)", x -> x.carriers(good, 9999));
        }
        for (int t = 1; t < 16; t++) {
            int town = t;
            ask(to, "parted(99991, " + town + ")", x -> x.parted(99991, town));
        }
    }

    private static void lists(List<Question> to) {
        for (int w = 0; w < 2; w++) {
            int what = w;
            ask(to, "fault(" + what + ")", x -> x.fault(what));
        }
        ask(to, "quarrels()", TributeLists::quarrels);
        for (int s = 0; s < 90; s++) {
            int town = s / 6 + 1;
            int good = s % 6;
            ask(to, "owed(" + town + ", " + good + ")", x -> x.owed(town, good));
            ask(to, "quarrel(" + town + ", " + good + ")", x -> x.quarrel(town, good));
            for (int k = 0; k < 5; k++) {
                int c = k;
                ask(to, "tells(" + c + ", " + town + ", " + good + ")", x -> x.tells(c, town, good));
            }
        }
    }

    private static void tribute(List<Question> to) {
        for (int k = 0; k < 101 * 8; k++) {
            int number = k / 8;
            int what = k % 8;
            ask(to, "sending(" + number + ", " + what + ")", x -> x.sending(number, what));
        }
        for (int k = 0; k < 90 * 4; k++) {
            int town = k / 24 + 1;
            int good = k / 4 % 6;
            int what = k % 4;
            ask(to, "account(" + town + ", " + good + ", " + what + ")", x -> x.account(town, good, what));
        }
        for (int t = 1; t < 16; t++) {
            int town = t;
            ask(to, "late(" + town + ")", x -> x.late(town));
        }
        for (int k = 0; k < 60; k++) {
            int i = k;
            ask(to, "piece(" + i + ")", x -> x.piece(i));
        }
    }

    private static void markets(List<Question> to) {
        for (int k = 0; k < 6; k++) {
            int i = k;
            ask(to, "bartered(" + i + ")", x -> x.bartered(i));
        }
        for (int k = 0; k < 36; k++) {
            int from = k / 6;
            int good = k % 6;
            ask(to, "barter(" + from + ", 97, " + good + ")", x -> x.barter(from, 97, good));
            ask(to, "bartered(0)", x -> x.bartered(0));
            ask(to, "bartered(1)", x -> x.bartered(1));
        }
    }

    /** What the tape holds shows as it is read. */
    private static List<Question> laterTape() {
        List<Question> row = new ArrayList<>();
        ask(row, "feed", x -> x.feed(0x20202020, 0x20202020, 0x20202020, 0x20202020, 0x20202023));
        ask(row, "about(6)", x -> x.about(6));
        ask(row, "end(10)", x -> x.end(10));
        ask(row, "copy(3)", x -> x.copy(3));
        ask(row, "fault(0)", x -> x.fault(0));
        ask(row, "fault(1)", x -> x.fault(1));
        ask(row, "tells(3, 1, 0)", x -> x.tells(3, 1, 0));
        ask(row, "owed(1, 0)", x -> x.owed(1, 0));
        ask(row, "about(7)", x -> x.about(7));
        return row;
    }

    private static List<Question> laterDays() {
        List<Question> row = new ArrayList<>();
        for (int k = 0; k < 3; k++) {
            ask(row, "days(100)", x -> x.days(100));
            ask(row, "days(7)", x -> x.days(7));
            ask(row, "about(1)", x -> x.about(1));
            ask(row, "about(3)", x -> x.about(3));
            for (int t = 1; t < 4; t++) {
                int town = t;
                ask(row, "late(" + town + ")", x -> x.late(town));
                for (int what = 0; what < 4; what++) {
                    int w = what;
                    ask(row, "account(" + town + ", 0, " + w + ") later", x -> x.account(town, 0, w));
                }
            }
            for (int s = 0; s < 6; s++) {
                int number = s;
                ask(row, "sending(" + number + ", 7) later", x -> x.sending(number, 7));
                ask(row, "piece(" + 9 * number + ") later", x -> x.piece(9 * number));
            }
        }
        return row;
    }

    private static List<Question> laterSendings() {
        List<Question> row = new ArrayList<>();
        for (int t = 1; t < 4; t++) {
            int town = t;
            ask(row, "send(" + town + ", 0, 30)", x -> x.send(town, 0, 30));
        }
        for (int k = 0; k < 80; k++) {
            int number = k / 8;
            int what = k % 8;
            ask(row, "sending(" + number + ", " + what + ") later", x -> x.sending(number, what));
        }
        ask(row, "about(2)", x -> x.about(2));
        return row;
    }

    private static List<Question> laterMarkets() {
        List<Question> row = new ArrayList<>();
        ask(row, "market(2, 1, 5, 98)", x -> x.market(2, 1, 5, 98));
        ask(row, "about(4)", x -> x.about(4));
        for (int from = 0; from < 5; from++) {
            int good = from;
            ask(row, "barter(" + good + ", 9999, 5)", x -> x.barter(good, 9999, 5));
            for (int k = 0; k < 6; k++) {
                int i = k;
                ask(row, "bartered(" + i + ")", x -> x.bartered(i));
            }
        }
        ask(row, "yields(7, 5)", x -> x.yields(7, 5) ? 1 : 0);
        for (int t = 1; t < 16; t++) {
            int town = t;
            ask(row, "parted(77, " + town + ")", x -> x.parted(77, town));
        }
        return row;
    }
}
