import java.util.Random;

/** Every promise: runs of 512 calls, drawn by fixed seeds, answered as PlainModel answers them. */
public final class ModelTest {
    private static final int RUNS = 1200;
    private static final int CALLS = 512;
    // A road, and a text of 300 bytes: end, fifteen feeds, end, copy and two faults.
    private static final int LONGEST_STEP = 21;
    private static final int[] EXTREMES = {Integer.MIN_VALUE, Integer.MAX_VALUE, -1, -2, 1 << 30, 65536, -65536, 1000};

    private final Random random;
    private final TributeLists real = new TributeLists();
    private final PlainModel model = new PlainModel();
    private final int topic;
    private final String name;
    private int calls = 0;

    private ModelTest(int seed) {
        random = new Random(seed);
        topic = seed % 5;
        name = "seed " + seed + ", call ";
    }

    public static void main(String[] args) {
        for (int seed = 0; seed < RUNS; seed++) {
            new ModelTest(seed).run();
        }
        Check.finish();
    }

    private void run() {
        while (calls + LONGEST_STEP <= CALLS) {
            step();
        }
        // What an object answers behind its last call is free, so the rest goes by steps of one call.
        while (calls < CALLS) {
            roadStep();
        }
    }

    private void due(String call, long got, long want) {
        calls++;
        Check.due(name + calls + ": " + call, got, want);
    }

    private int in(int least, int most) {
        return least + random.nextInt(most - least + 1);
    }

    /** Mostly within the bounds, sometimes at or beyond them. */
    private int near(int least, int most) {
        int k = random.nextInt(40);
        if (k == 0) {
            return EXTREMES[random.nextInt(EXTREMES.length)];
        }
        return k == 1 ? least - 1 : k == 2 ? most + 1 : k == 3 ? least : k == 4 ? most : in(least, most);
    }

    // Few towns and goods, so that what the calls do meets.
    private int town() {
        return random.nextInt(4) > 0 ? in(1, 4) : near(1, 15);
    }

    private int good() {
        return random.nextInt(4) > 0 ? in(0, 2) : near(0, 5);
    }

    private void step() {
        switch (topic == 0 ? in(0, 4) : random.nextInt(3) > 0 ? topic : in(0, 4)) {
            case 1: listStep(); break;
            case 2: tributeStep(); break;
            case 3: marketStep(); break;
            case 4: shareStep(); break;
            default: roadStep(); break;
        }
    }

    private void roadStep() {
        int a = random.nextBoolean() ? in(0, 5) : near(0, 15);
        int b = random.nextBoolean() ? in(0, 5) : near(0, 15);
        int v = near(1, 50);
        int g = near(-1, 5);
        int n = near(0, 9999);
        int d = near(0, 30);
        int w = near(0, 15);
        switch (in(0, 4)) {
            case 0: due("road(" + a + ", " + b + ", " + d + ")", real.road(a, b, d) ? 1 : 0, model.road(a, b, d)); break;
            case 1: due("way(" + a + ", " + b + ")", real.way(a, b), model.way(a, b)); break;
            case 2: due("weight(" + g + ", " + v + ")", real.weight(g, v) ? 1 : 0, model.weight(g, v)); break;
            case 3: due("carriers(" + g + ", " + n + ")", real.carriers(g, n), model.carriers(g, n)); break;
            default: due("about(" + w + ")", real.about(w), model.about(w)); break;
        }
    }

    private String text() {
        StringBuilder s = new StringBuilder();
        String[] gaps = {"", "", " ", "\n", "  "};
        int lines = in(0, 4);
        int first = in(1, 4);
        for (int l = 0; l < lines; l++) {
            int t = random.nextInt(25) == 0 ? near(0, 16) : 1 + (first + l) % (random.nextInt(20) == 0 ? 2 : 15);
            s.append(gaps[in(0, 4)]).append("town").append(gaps[in(0, 4)]).append(Math.abs((long) t)).append(gaps[in(0, 4)]).append(':');
            int parts = in(1, 3);
            int g = in(0, 2);
            for (int p = 0; p < parts; p++) {
                int pieces = random.nextInt(30) == 0 ? near(0, 9999) : in(0, 3) * 4;
                s.append(p == 0 ? "" : ",").append(gaps[in(0, 4)]).append(random.nextInt(40) == 0 ? in(0, 6) : (g + p) % 6)
                    .append(gaps[in(2, 4)]).append(Math.abs((long) pieces)).append(gaps[in(0, 4)]);
            }
            s.append(';');
        }
        spoil(s);
        return s.length() > 300 ? s.substring(0, 300) : s.toString();
    }

    private void spoil(StringBuilder s) {
        String stuff = "town0129;,: \nTZaz@[`{/<#\0\t\r\u0080\u00b2\u00ff";
        if (s.length() == 0 || random.nextInt(3) > 0) {
            return;
        }
        int at = random.nextInt(s.length());
        char c = stuff.charAt(random.nextInt(stuff.length()));
        switch (in(0, 3)) {
            case 0: s.setCharAt(at, c); break;
            case 1: s.insert(at, c); break;
            case 2: s.deleteCharAt(at); break;
            default: s.setLength(at); break;
        }
    }

    private void readText() {
        String text = text();
        due("end(0)", real.end(0), model.end(0));
        for (int at = 0; at < text.length(); at += 20) {
            int[] w = new int[5];
            for (int k = 0; k < 5; k++) {
                w[k] = Check.word(text, at + 4 * k);
            }
            due("feed", real.feed(w[0], w[1], w[2], w[3], w[4]), model.feed(w));
        }
        due("end(" + text.length() + ")", real.end(text.length()), model.end(text.length()));
        int c = near(0, 4);
        due("copy(" + c + ") of <" + text + ">", real.copy(c), model.copy(c));
        due("fault(0) of <" + text + ">", real.fault(0), model.fault(0));
        due("fault(1) of <" + text + ">", real.fault(1), model.fault(1));
    }

    private void listStep() {
        int c = near(0, 4);
        int t = town();
        int g = good();
        int n = near(0, 300);
        int w = near(0, 1);
        switch (in(0, 8)) {
            case 0: due("end(" + n + ")", real.end(n), model.end(n)); break;
            case 1: due("feed", real.feed(n, c, t, g, w), model.feed(n, c, t, g, w)); break;
            case 2: due("copy(" + c + ")", real.copy(c), model.copy(c)); break;
            case 3: due("fault(" + w + ")", real.fault(w), model.fault(w)); break;
            case 4: due("tells(" + c + ", " + t + ", " + g + ")", real.tells(c, t, g), model.tells(c, t, g)); break;
            case 5: due("owed(" + t + ", " + g + ")", real.owed(t, g), model.owed(t, g)); break;
            case 6: due("quarrel(" + t + ", " + g + ")", real.quarrel(t, g), model.quarrel(t, g)); break;
            case 7: due("quarrels()", real.quarrels(), model.quarrels()); break;
            default: readText(); break;
        }
    }

    private void tributeStep() {
        int t = town();
        int g = good();
        int n = random.nextInt(5) > 0 ? in(1, 12) : near(1, 200);
        int d = random.nextBoolean() ? in(1, 10) : near(1, 100);
        int k = near(0, Math.max(1, (int) model.about(2)));
        int w = near(0, 7);
        int a = near(0, 3);
        int i = near(0, Math.max(1, (int) model.about(3)));
        int near = in(1, 30);
        switch (in(0, 8)) {
            case 0:
            case 1: due("send(" + t + ", " + g + ", " + n + ")", real.send(t, g, n), model.send(t, g, n)); break;
            case 2: due("sending(" + k + ", " + w + ")", real.sending(k, w), model.sending(k, w)); break;
            case 3: due("days(" + d + ")", real.days(d), model.days(d)); break;
            case 4:
            case 5: due("account(" + t + ", " + g + ", " + a + ")", real.account(t, g, a), model.account(t, g, a)); break;
            case 6: due("late(" + t + ")", real.late(t), model.late(t)); break;
            case 7: due("piece(" + i + ")", real.piece(i), model.piece(i)); break;
            default:
                due("road(0, " + t + ", " + near + ")", real.road(0, t, near) ? 1 : 0, model.road(0, t, near));
                if (random.nextInt(3) == 0) {
                    readText();
                }
                break;
        }
    }

    private void marketStep() {
        int from = near(0, 5);
        int to = near(0, 5);
        int a = random.nextBoolean() ? in(1, 3) : near(1, 99);
        int b = random.nextBoolean() ? in(1, 3) : near(1, 99);
        int n = random.nextBoolean() ? in(1, 9) : near(1, 9999);
        int i = near(0, 5);
        switch (in(0, 7)) {
            case 0: due("market(" + from + ", " + a + ", " + to + ", " + b + ")", real.market(from, a, to, b), model.market(from, a, to, b)); break;
            case 1:
            case 2:
            case 3: due("barter(" + from + ", " + n + ", " + to + ")", real.barter(from, n, to), model.barter(from, n, to)); break;
            default: due("bartered(" + i + ")", real.bartered(i), model.bartered(i)); break;
        }
    }

    private void shareStep() {
        int t = near(1, 15);
        int v = random.nextInt(3) > 0 ? in(0, 5) : near(0, 10000);
        int sum = random.nextBoolean() ? in(0, 60) : near(0, 100000);
        if (random.nextInt(4) == 0) {
            due("yields(" + t + ", " + v + ")", real.yields(t, v) ? 1 : 0, model.yields(t, v));
        } else {
            due("parted(" + sum + ", " + t + ")", real.parted(sum, t), model.parted(sum, t));
        }
    }
}
