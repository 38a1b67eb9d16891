import java.math.BigInteger;
import java.util.ArrayList;
import java.util.Arrays;
import java.util.HashMap;
import java.util.List;
import java.util.Map;
import java.util.regex.Matcher;
import java.util.regex.Pattern;

/** The document once more, piece by piece and without any thrift, for ModelTest to compare with. */
final class PlainModel {
    private static final Pattern TOKEN = Pattern.compile("[ \n]*([a-zA-Z]+|[0-9]+|[;,:]|[^ \n])", Pattern.DOTALL);

    private record Owing(int town, int good, int quarter, int came, int[] paidOn) { }

    private record Sent(int town, int good, int pieces, int carriers, int left, int comes, int[] stored) { }

    private record Market(int from, int a, int to, int b) { }

    private final Map<List<Integer>, Integer> roads = new HashMap<>();
    private final int[] weights = {10, 10, 10, 10, 10, 10};
    private int load = 23;
    private StringBuilder tape = new StringBuilder();
    private final List<Map<List<Integer>, Integer>> copies = new ArrayList<>(Arrays.asList(null, null, null, null, null));
    private final List<Integer> readingOrder = new ArrayList<>();
    private int[] latestFault = null;
    private final List<Owing> debtPieces = new ArrayList<>();
    private final Map<List<Integer>, Integer> gifts = new HashMap<>();
    private final List<Sent> sendings = new ArrayList<>();
    private final List<Integer> store = new ArrayList<>();
    private final List<Market> markets = new ArrayList<>();
    private List<Integer> latestBarter = List.of();
    private final int[] yields = new int[16];
    private int clock = 0;

    private static boolean place(int p) {
        return 0 <= p && p <= 15;
    }

    private static boolean town(int p) {
        return 1 <= p && p <= 15;
    }

    private static boolean good(int g) {
        return 0 <= g && g <= 5;
    }

    long road(int a, int b, int days) {
        if (!place(a) || !place(b) || a == b || days < 0 || days > 30) {
            return 0;
        }
        roads.put(List.of(Math.min(a, b), Math.max(a, b)), days);
        return 1;
    }

    long way(int a, int b) {
        if (!place(a) || !place(b)) {
            return -1;
        }
        int[][] d = new int[16][16];
        for (int i = 0; i < 16; i++) {
            Arrays.fill(d[i], 99999);
            d[i][i] = 0;
        }
        roads.forEach((ab, days) -> {
            if (days > 0) {
                d[ab.get(0)][ab.get(1)] = days;
                d[ab.get(1)][ab.get(0)] = days;
            }
        });
        for (int k = 0; k < 16; k++) {
            for (int i = 0; i < 16; i++) {
                for (int j = 0; j < 16; j++) {
                    d[i][j] = Math.min(d[i][j], d[i][k] + d[k][j]);
                }
            }
        }
        return d[a][b] == 99999 ? -1 : d[a][b];
    }

    long weight(int good, int v) {
        if (good == -1 && v >= 1 && v <= 100) {
            load = v;
            return 1;
        }
        if (good(good) && v >= 1 && v <= 50) {
            weights[good] = v;
            return 1;
        }
        return 0;
    }

    long carriers(int good, int pieces) {
        if (!good(good) || pieces < 0 || pieces > 9999) {
            return -1;
        }
        int sum = 0;
        int left = pieces;
        while (left > 0) {
            sum++;
            left--;
            for (int w = 2 * weights[good]; w <= load && left > 0; w += weights[good]) {
                left--;
            }
        }
        return sum;
    }

    long feed(int... words) {
        if (tape.length() + 20 > 300) {
            return -1;
        }
        for (int w : words) {
            tape.append((char) (w >>> 24)).append((char) (w >>> 16 & 255)).append((char) (w >>> 8 & 255)).append((char) (w & 255));
        }
        return tape.length();
    }

    long end(int n) {
        if (n < 0 || n > tape.length()) {
            return -1;
        }
        tape.setLength(n);
        return n;
    }

    long copy(int c) {
        if (c < 0 || c > 4) {
            return -1;
        }
        String text = tape.toString();
        tape = new StringBuilder();
        Map<List<Integer>, Integer> told = new HashMap<>();
        latestFault = new int[] {0, -1};
        int lines = parse(text, told);
        if (lines >= 0) {
            copies.set(c, told);
            readingOrder.remove((Integer) c);
            readingOrder.add(c);
        }
        return lines;
    }

    private int wrong(int fault, int place) {
        latestFault = new int[] {fault, place};
        return -1;
    }

    private static boolean above(String digits, int most) {
        return new BigInteger(digits).compareTo(BigInteger.valueOf(most)) > 0;
    }

    /** The grammar as one text of what may follow what: T word, t its number, : g p , ; as they stand. */
    private int parse(String text, Map<List<Integer>, Integer> told) {
        List<Integer> towns = new ArrayList<>();
        List<Integer> goods = new ArrayList<>();
        String due = "T";
        int lines = 0;
        Matcher m = TOKEN.matcher(text);
        while (m.lookingAt()) {
            String token = m.group(1);
            int at = m.start(1);
            boolean number = Character.isDigit(token.charAt(0)) && token.charAt(0) < 128;
            String kind = number ? "tgp" : token.equals("town") ? "T" : token.matches("[;,:]") ? token : "?";
            String fits = "";
            for (char k : kind.toCharArray()) {
                fits += due.indexOf(k) >= 0 ? k : "";
            }
            switch (fits) {
                case "T":
                    due = "t";
                    break;
                case "t":
                    if (above(token, 15) || !above(token, 0)) {
                        return wrong(3, at);
                    }
                    if (towns.contains(new BigInteger(token).intValue())) {
                        return wrong(2, at);
                    }
                    towns.add(new BigInteger(token).intValue());
                    goods.clear();
                    due = ":";
                    break;
                case "g":
                    if (above(token, 5)) {
                        return wrong(3, at);
                    }
                    if (goods.contains(new BigInteger(token).intValue())) {
                        return wrong(2, at);
                    }
                    goods.add(new BigInteger(token).intValue());
                    due = "p";
                    break;
                case "p":
                    if (above(token, 9999)) {
                        return wrong(3, at);
                    }
                    told.put(List.of(towns.get(towns.size() - 1), goods.get(goods.size() - 1)), new BigInteger(token).intValue());
                    due = ",;";
                    break;
                case ";":
                    lines++;
                    due = "T";
                    break;
                case ":":
                case ",":
                    due = "g";
                    break;
                default:
                    return wrong(1, at);
            }
            m.region(m.end(), text.length());
        }
        return due.equals("T") ? lines : wrong(1, text.length());
    }

    long fault(int what) {
        return latestFault == null || what < 0 || what > 1 ? -1 : latestFault[what];
    }

    long tells(int c, int town, int good) {
        if (c < 0 || c > 4 || !town(town) || !good(good) || copies.get(c) == null) {
            return -1;
        }
        return copies.get(c).getOrDefault(List.of(town, good), -1);
    }

    long owed(int town, int good) {
        if (!town(town) || !good(good)) {
            return -1;
        }
        Map<Long, Integer> votes = new HashMap<>();
        int most = 0;
        for (int c = 0; c < 5; c++) {
            long n = tells(c, town, good);
            if (n >= 0) {
                most = Math.max(most, votes.merge(n, 1, Integer::sum));
            }
        }
        for (int k = readingOrder.size() - 1; k >= 0; k--) {
            long n = tells(readingOrder.get(k), town, good);
            if (n >= 0 && votes.get(n) == most) {
                return n;
            }
        }
        return 0;
    }

    long quarrel(int town, int good) {
        if (!town(town) || !good(good)) {
            return -1;
        }
        for (int c = 0; c < 5; c++) {
            for (int d = 0; d < 5; d++) {
                long n = tells(c, town, good);
                long k = tells(d, town, good);
                if (n >= 0 && k >= 0 && n != k) {
                    return 1;
                }
            }
        }
        return 0;
    }

    long quarrels() {
        long sum = 0;
        for (int t = 1; t < 16; t++) {
            for (int g = 0; g < 6; g++) {
                sum += quarrel(t, g);
            }
        }
        return sum;
    }

    long send(int town, int good, int pieces) {
        if (!town(town) || !good(good) || pieces < 1 || pieces > 9999 || way(town, 0) < 0 || sendings.size() == 100) {
            return -1;
        }
        sendings.add(new Sent(town, good, pieces, (int) carriers(good, pieces), clock, clock + (int) way(town, 0), new int[2]));
        return sendings.size() - 1;
    }

    long sending(int k, int what) {
        if (k < 0 || k >= sendings.size() || what < 0 || what > 7) {
            return -1;
        }
        Sent s = sendings.get(k);
        return new int[] {s.town, s.good, s.pieces, s.carriers, s.left, s.comes, s.stored[0], s.stored[1]}[what];
    }

    long days(int n) {
        if (n < 1 || n > 100 || clock + n > 3000) {
            return -1;
        }
        for (int k = 0; k < n; k++) {
            clock++;
            for (int s = 0; s < sendings.size(); s++) {
                if (sendings.get(s).comes == clock) {
                    arrive(s);
                }
            }
            if (clock % 90 == 0) {
                quarter(clock / 90 - 1);
            }
        }
        return clock;
    }

    private void arrive(int k) {
        Sent s = sendings.get(k);
        s.stored[0] = 1;
        int left = s.pieces;
        for (int i = 0; i < s.pieces; i++) {
            store.add(k);
        }
        for (Owing o : debtPieces) {
            if (left > 0 && o.town == s.town && o.good == s.good && o.paidOn[0] < 0) {
                o.paidOn[0] = clock;
                left--;
                s.stored[1]++;
            }
        }
        gifts.merge(List.of(s.town, s.good), left, Integer::sum);
    }

    private void quarter(int q) {
        for (int t = 1; t < 16; t++) {
            for (int g = 0; g < 6; g++) {
                for (long n = owed(t, g); n > 0; n--) {
                    int gift = gifts.getOrDefault(List.of(t, g), 0);
                    debtPieces.add(new Owing(t, g, q, clock, new int[] {gift > 0 ? clock : -1}));
                    gifts.put(List.of(t, g), Math.max(0, gift - 1));
                }
            }
        }
    }

    long account(int town, int good, int what) {
        if (!town(town) || !good(good) || what < 0 || what > 3) {
            return -1;
        }
        int owes = 0;
        int paid = 0;
        int oldest = -1;
        for (Owing o : debtPieces) {
            if (o.town == town && o.good == good) {
                owes += o.paidOn[0] < 0 ? 1 : 0;
                paid += o.paidOn[0] < 0 ? 0 : 1;
                oldest = oldest < 0 && o.paidOn[0] < 0 ? o.quarter : oldest;
            }
        }
        return new int[] {owes, gifts.getOrDefault(List.of(town, good), 0), oldest, paid}[what];
    }

    long late(int town) {
        if (!town(town)) {
            return -1;
        }
        long sum = 0;
        for (Owing o : debtPieces) {
            if (o.town == town) {
                sum += (o.paidOn[0] < 0 ? clock : o.paidOn[0]) - o.came;
            }
        }
        return sum;
    }

    long piece(int i) {
        return i < 0 || i >= store.size() ? -1 : store.get(i);
    }

    long market(int from, int a, int to, int b) {
        if (!good(from) || !good(to) || from == to || a < 1 || a > 99 || b < 1 || b > 99 || markets.size() == 20) {
            return -1;
        }
        markets.add(new Market(from, a, to, b));
        return markets.size() - 1;
    }

    private record Trail(BigInteger amount, List<Integer> steps, List<Integer> goods) { }

    /** By breadth: all trails of each length in turn, in the order of their markets. */
    long barter(int from, int n, int to) {
        if (!good(from) || !good(to) || from == to || n < 1 || n > 9999) {
            return -1;
        }
        Trail best = null;
        List<Trail> row = List.of(new Trail(BigInteger.valueOf(n), List.of(), List.of(from)));
        while (!row.isEmpty()) {
            List<Trail> next = new ArrayList<>();
            for (Trail t : row) {
                int end = t.goods.get(t.goods.size() - 1);
                if (end == to && (best == null || t.amount.compareTo(best.amount) > 0)) {
                    best = t;
                }
                for (int m = 0; m < markets.size(); m++) {
                    Market k = markets.get(m);
                    if (k.from == end && !t.goods.contains(k.to)) {
                        List<Integer> steps = new ArrayList<>(t.steps);
                        steps.add(m);
                        List<Integer> goods = new ArrayList<>(t.goods);
                        goods.add(k.to);
                        next.add(new Trail(t.amount.divide(BigInteger.valueOf(k.a)).multiply(BigInteger.valueOf(k.b)), steps, goods));
                    }
                }
            }
            row = next;
        }
        if (best == null) {
            return -1;
        }
        latestBarter = best.steps;
        return best.amount.min(BigInteger.valueOf(1000000000)).longValue();
    }

    long bartered(int i) {
        return i < 0 || i >= latestBarter.size() ? -1 : latestBarter.get(i);
    }

    long yields(int town, int v) {
        if (!town(town) || v < 0 || v > 10000) {
            return 0;
        }
        yields[town] = v;
        return 1;
    }

    long parted(int sum, int town) {
        long all = Arrays.stream(yields).sum();
        if (sum < 0 || sum > 100000 || !town(town) || all == 0) {
            return -1;
        }
        long[] part = new long[16];
        long left = sum;
        List<Integer> order = new ArrayList<>();
        for (int t = 1; t < 16; t++) {
            part[t] = (long) sum * yields[t] / all;
            left -= part[t];
            order.add(t);
        }
        order.sort((p, q) -> Long.compare((long) sum * yields[q] % all, (long) sum * yields[p] % all));
        for (int k = 0; left > 0; k++, left--) {
            part[order.get(k)]++;
        }
        return part[town];
    }

    long about(int what) {
        if (what >= 10 && what <= 15) {
            return weights[what - 10];
        }
        int[] told = {clock, clock / 90, sendings.size(), store.size(), markets.size(), load, tape.length(), readingOrder.size()};
        return what < 0 || what > 7 ? -1 : told[what];
    }
}
