import java.util.Arrays;

/** The tribute of a lake city's towns; ../shared/DOC.md says what each call promises. */
public final class TributeLists {
    public static final int NONE = -1;

    private static final int PLACES = 16;
    private static final int GOODS = 6;
    private static final int SLOTS = PLACES * GOODS;
    private static final int MOST_PIECES = 9999;
    private static final int LAST_DAY = 3000;
    private static final int QUARTER_DAYS = 90;
    private static final int MOST_DAYS_AT_ONCE = 100;
    private static final int LARGEST_TOLD = 1000000000;

    private final Roads roads;
    private final Porters porters;
    private final Tape tape;
    private final ListReader reader;
    private final Copies copies;
    private final Accounts accounts;
    private final Sendings sendings;
    private final Markets markets;
    private final Shares shares;
    private int clock;

    public TributeLists() {
        roads = new Roads();
        porters = new Porters();
        tape = new Tape();
        reader = new ListReader();
        copies = new Copies();
        accounts = new Accounts();
        sendings = new Sendings();
        markets = new Markets();
        shares = new Shares();
        clock = 0;
    }

    public boolean road(int a, int b, int days) {
        if (!isPlace(a) || !isPlace(b) || a == b || !within(days, 0, Roads.LONGEST)) {
            return false;
        }
        roads.lay(a, b, days);
        return true;
    }

    public int way(int a, int b) {
        return isPlace(a) && isPlace(b) ? roads.leastDays(a, b) : NONE;
    }

    public boolean weight(int good, int v) {
        if (good == NONE) {
            return porters.setLoad(v);
        }
        return isGood(good) && porters.setWeight(good, v);
    }

    public int carriers(int good, int pieces) {
        return isGood(good) && within(pieces, 0, MOST_PIECES) ? porters.needed(good, pieces) : NONE;
    }

    public int feed(int a, int b, int c, int d, int e) {
        if (!tape.hasRoomForFive()) {
            return NONE;
        }
        tape.append(a);
        tape.append(b);
        tape.append(c);
        tape.append(d);
        tape.append(e);
        return tape.size();
    }

    public int end(int n) {
        if (!within(n, 0, tape.size())) {
            return NONE;
        }
        tape.cut(n);
        return n;
    }

    public int copy(int c) {
        if (!isCopy(c)) {
            return NONE;
        }
        int lines = reader.read(tape);
        // A text with a fault is used up as well: only for a wrong c the document says that the tape stays.
        tape.cut(0);
        if (lines != NONE) {
            copies.replace(c, reader.row());
        }
        return lines;
    }

    public int fault(int what) {
        if (!reader.hasRead()) {
            return NONE;
        }
        switch (what) {
            case 0: return reader.faultKind();
            case 1: return reader.faultPlace();
            default: return NONE;
        }
    }

    public int tells(int c, int town, int good) {
        return isCopy(c) && isTown(town) && isGood(good) ? copies.toldBy(c, slot(town, good)) : NONE;
    }

    public int owed(int town, int good) {
        return isTown(town) && isGood(good) ? copies.mostTold(slot(town, good)) : NONE;
    }

    public int quarrel(int town, int good) {
        if (!isTown(town) || !isGood(good)) {
            return NONE;
        }
        return copies.differ(slot(town, good)) ? 1 : 0;
    }

    public int quarrels() {
        int sum = 0;
        for (int s = slot(1, 0); s < SLOTS; s++) {
            if (copies.differ(s)) {
                sum++;
            }
        }
        return sum;
    }

    public int send(int town, int good, int pieces) {
        if (!isTown(town) || !isGood(good) || !within(pieces, 1, MOST_PIECES) || sendings.isFull()) {
            return NONE;
        }
        int road = roads.leastDays(town, 0);
        if (road == NONE) {
            return NONE;
        }
        return sendings.add(town, good, pieces, porters.needed(good, pieces), clock, clock + road);
    }

    public int sending(int k, int what) {
        if (!within(k, 0, sendings.count() - 1) || !within(what, 0, Sendings.COLUMNS - 1)) {
            return NONE;
        }
        return sendings.entry(k, what);
    }

    public int days(int n) {
        if (!within(n, 1, MOST_DAYS_AT_ONCE) || n > LAST_DAY - clock) {
            return NONE;
        }
        for (int k = 0; k < n; k++) {
            clock++;
            storeArrivals();
            if (clock % QUARTER_DAYS == 0) {
                bringDebts();
            }
        }
        return clock;
    }

    public int account(int town, int good, int what) {
        if (!isTown(town) || !isGood(good)) {
            return NONE;
        }
        int s = slot(town, good);
        switch (what) {
            case 0: return accounts.owing(s);
            case 1: return accounts.gift(s);
            case 2: return accounts.oldestQuarter(s);
            case 3: return accounts.paid(s);
            default: return NONE;
        }
    }

    public long late(int town) {
        return isTown(town) ? accounts.lateness(town, clock) : NONE;
    }

    public int piece(int i) {
        return i < 0 ? NONE : sendings.ofPiece(i);
    }

    public int market(int from, int a, int to, int b) {
        if (!isGood(from) || !isGood(to) || from == to) {
            return NONE;
        }
        if (!within(a, 1, Markets.MOST_A_SIDE) || !within(b, 1, Markets.MOST_A_SIDE) || markets.isFull()) {
            return NONE;
        }
        return markets.add(from, a, to, b);
    }

    public int barter(int from, int n, int to) {
        if (!isGood(from) || !isGood(to) || from == to || !within(n, 1, MOST_PIECES)) {
            return NONE;
        }
        long most = markets.findBest(from, n, to);
        return (int) Math.min(most, LARGEST_TOLD);
    }

    public int bartered(int i) {
        return within(i, 0, markets.bestLength() - 1) ? markets.bestStep(i) : NONE;
    }

    public boolean yields(int town, int v) {
        if (!isTown(town) || !within(v, 0, Shares.MOST_YIELD)) {
            return false;
        }
        shares.setYield(town, v);
        return true;
    }

    public int parted(int sum, int town) {
        return isTown(town) && within(sum, 0, Shares.MOST_PARTED) ? shares.shareOf(sum, town) : NONE;
    }

    public int about(int what) {
        if (within(what, 10, 10 + GOODS - 1)) {
            return porters.weightOf(what - 10);
        }
        switch (what) {
            case 0: return clock;
            case 1: return clock / QUARTER_DAYS;
            case 2: return sendings.count();
            case 3: return sendings.storedPieces();
            case 4: return markets.count();
            case 5: return porters.load();
            case 6: return tape.size();
            case 7: return copies.countRead();
            default: return NONE;
        }
    }

    private void storeArrivals() {
        for (int k = 0; k < sendings.count(); k++) {
            if (sendings.comesOn(k, clock)) {
                int s = slot(sendings.entry(k, Sendings.TOWN), sendings.entry(k, Sendings.GOOD));
                int paying = accounts.store(s, sendings.entry(k, Sendings.PIECES), clock);
                sendings.markStored(k, paying);
            }
        }
    }

    private void bringDebts() {
        int quarter = clock / QUARTER_DAYS - 1;
        for (int s = slot(1, 0); s < SLOTS; s++) {
            accounts.bringDebt(s, quarter, copies.mostTold(s));
        }
    }

    private static boolean within(int v, int least, int most) {
        return v >= least && v <= most;
    }

    private static boolean isPlace(int p) {
        return within(p, 0, PLACES - 1);
    }

    private static boolean isTown(int p) {
        return within(p, 1, PLACES - 1);
    }

    private static boolean isGood(int g) {
        return within(g, 0, GOODS - 1);
    }

    private static boolean isCopy(int c) {
        return within(c, 0, Copies.ROOM - 1);
    }

    private static int slot(int town, int good) {
        return town * GOODS + good;
    }

    private static final class Roads {
        static final int LONGEST = 30;
        private static final int FAR = 1000000;

        private final int[] length = new int[PLACES * PLACES];
        private final int[] reach = new int[PLACES];
        private final int[] settled = new int[PLACES];

        void lay(int a, int b, int days) {
            length[a * PLACES + b] = days;
            length[b * PLACES + a] = days;
        }

        int leastDays(int a, int b) {
            Arrays.fill(reach, FAR);
            Arrays.fill(settled, 0);
            reach[a] = 0;
            for (int k = 0; k < PLACES; k++) {
                int near = nearestOpen();
                if (near == NONE || near == b) {
                    break;
                }
                settled[near] = 1;
                reachOnFrom(near);
            }
            return reach[b] < FAR ? reach[b] : NONE;
        }

        private int nearestOpen() {
            int near = NONE;
            int least = FAR;
            for (int p = 0; p < PLACES; p++) {
                if (settled[p] == 0 && reach[p] < least) {
                    near = p;
                    least = reach[p];
                }
            }
            return near;
        }

        private void reachOnFrom(int p) {
            for (int next = 0; next < PLACES; next++) {
                int days = length[p * PLACES + next];
                if (days > 0) {
                    reach[next] = Math.min(reach[next], reach[p] + days);
                }
            }
        }
    }

    private static final class Porters {
        private static final int FIRST_LOAD = 23;
        private static final int MOST_LOAD = 100;
        private static final int FIRST_WEIGHT = 10;
        private static final int MOST_WEIGHT = 50;

        private final int[] weights = new int[GOODS];
        private int load = FIRST_LOAD;

        Porters() {
            Arrays.fill(weights, FIRST_WEIGHT);
        }

        boolean setLoad(int v) {
            if (!within(v, 1, MOST_LOAD)) {
                return false;
            }
            load = v;
            return true;
        }

        boolean setWeight(int good, int v) {
            if (!within(v, 1, MOST_WEIGHT)) {
                return false;
            }
            weights[good] = v;
            return true;
        }

        int load() {
            return load;
        }

        int weightOf(int good) {
            return weights[good];
        }

        int needed(int good, int pieces) {
            int each = piecesEach(good);
            return (pieces + each - 1) / each;
        }

        // A piece above the load is borne all the same, so the answer is never 0 and may divide.
        private int piecesEach(int good) {
            int heavy = Math.max(1, weights[good]);
            return Math.max(1, load / heavy);
        }
    }

    private static final class Tape {
        static final int ROOM = 300;
        private static final int FIVE_WORDS = 20;

        private final byte[] bytes = new byte[ROOM];
        private int size = 0;

        boolean hasRoomForFive() {
            return size <= ROOM - FIVE_WORDS;
        }

        void append(int word) {
            for (int shift = 24; shift >= 0 && size < ROOM; shift -= 8) {
                bytes[size] = (byte) (word >> shift);
                size++;
            }
        }

        void cut(int n) {
            size = n;
        }

        int size() {
            return size;
        }

        int at(int i) {
            return bytes[i] & 255;
        }
    }

    /** Reads a text of THE LIST token by token and stops at its first fault. */
    private static final class ListReader {
        private static final String LINE_WORD = "town";

        // What may stand next.
        private static final int LINE = 0;
        private static final int TOWN = 1;
        private static final int COLON = 2;
        private static final int GOOD = 3;
        private static final int PIECES = 4;
        private static final int BEHIND_PART = 5;

        // Kinds of tokens; ; , : are their own kinds, so these stay below every byte.
        private static final int END = -1;
        private static final int WORD = -2;
        private static final int NUMBER = -3;
        private static final int STRANGE = -4;

        private static final int FINE = 0;
        private static final int MISPLACED = 1;
        private static final int TWICE = 2;
        private static final int NOT_TOLD = 3;

        // Above every number that may stand in a text, so longer rows of digits need not be counted out.
        private static final int BIG = 100000;

        private final int[] row = new int[SLOTS];
        private final int[] townSeen = new int[PLACES];
        private int cursor;
        private int tokenStart;
        private int tokenKind;
        private int number;
        private int expected;
        private int lines;
        private int town;
        private int good;
        private boolean anyRead = false;
        private int faultKind = FINE;
        private int faultPlace = NONE;

        int[] row() {
            return row;
        }

        boolean hasRead() {
            return anyRead;
        }

        int faultKind() {
            return faultKind;
        }

        int faultPlace() {
            return faultPlace;
        }

        /** How many lines the text has; NONE if it has a fault. */
        int read(Tape tape) {
            startAnew();
            // A text has at most a token for each of its bytes, and its end.
            for (int k = 0; k <= Tape.ROOM; k++) {
                nextToken(tape);
                faultKind = takeToken();
                if (faultKind != FINE) {
                    faultPlace = tokenStart;
                    return NONE;
                }
                if (tokenKind == END) {
                    return lines;
                }
            }
            return NONE;
        }

        private void startAnew() {
            Arrays.fill(row, NONE);
            Arrays.fill(townSeen, 0);
            cursor = 0;
            lines = 0;
            expected = LINE;
            anyRead = true;
            faultKind = FINE;
            faultPlace = NONE;
        }

        private void nextToken(Tape tape) {
            while (cursor < tape.size() && isBlank(tape.at(cursor))) {
                cursor++;
            }
            tokenStart = cursor;
            if (cursor >= tape.size()) {
                tokenKind = END;
                return;
            }
            int first = tape.at(cursor);
            if (isLetter(first)) {
                takeLetters(tape);
            } else if (isDigit(first)) {
                takeDigits(tape);
            } else {
                tokenKind = isSign(first) ? first : STRANGE;
                cursor++;
            }
        }

        private void takeLetters(Tape tape) {
            boolean same = true;
            while (cursor < tape.size() && isLetter(tape.at(cursor))) {
                int k = cursor - tokenStart;
                same = same && k < LINE_WORD.length() && LINE_WORD.charAt(k) == tape.at(cursor);
                cursor++;
            }
            tokenKind = same && cursor - tokenStart == LINE_WORD.length() ? WORD : STRANGE;
        }

        private void takeDigits(Tape tape) {
            number = 0;
            while (cursor < tape.size() && isDigit(tape.at(cursor))) {
                number = Math.min(BIG, number * 10 + (tape.at(cursor) - '0'));
                cursor++;
            }
            tokenKind = NUMBER;
        }

        private int takeToken() {
            switch (expected) {
                case LINE: return takeLineStart();
                case TOWN: return takeTown();
                case COLON: return takeColon();
                case GOOD: return takeGood();
                case PIECES: return takePieces();
                default: return takeBehindPart();
            }
        }

        private int takeLineStart() {
            if (tokenKind == END) {
                return FINE;
            }
            expected = TOWN;
            return tokenKind == WORD ? FINE : MISPLACED;
        }

        private int takeTown() {
            if (tokenKind != NUMBER) {
                return MISPLACED;
            }
            if (!isTown(number)) {
                return NOT_TOLD;
            }
            if (townSeen[number] != 0) {
                return TWICE;
            }
            townSeen[number] = 1;
            town = number;
            expected = COLON;
            return FINE;
        }

        private int takeColon() {
            expected = GOOD;
            return tokenKind == ':' ? FINE : MISPLACED;
        }

        private int takeGood() {
            if (tokenKind != NUMBER) {
                return MISPLACED;
            }
            if (!isGood(number)) {
                return NOT_TOLD;
            }
            if (row[slot(town, number)] != NONE) {
                return TWICE;
            }
            good = number;
            expected = PIECES;
            return FINE;
        }

        private int takePieces() {
            if (tokenKind != NUMBER) {
                return MISPLACED;
            }
            if (number > MOST_PIECES) {
                return NOT_TOLD;
            }
            row[slot(town, good)] = number;
            expected = BEHIND_PART;
            return FINE;
        }

        private int takeBehindPart() {
            if (tokenKind == ',') {
                expected = GOOD;
                return FINE;
            }
            if (tokenKind == ';') {
                lines++;
                expected = LINE;
                return FINE;
            }
            return MISPLACED;
        }

        private static boolean isBlank(int c) {
            return c == 32 || c == 10;
        }

        private static boolean isLetter(int c) {
            return within(c, 'a', 'z') || within(c, 'A', 'Z');
        }

        private static boolean isDigit(int c) {
            return within(c, '0', '9');
        }

        private static boolean isSign(int c) {
            return c == ';' || c == ',' || c == ':';
        }
    }

    private static final class Copies {
        static final int ROOM = 5;

        private final int[][] told = new int[ROOM][SLOTS];
        // The number of the reading that made a copy; 0 for one that was never read.
        private final int[] readAs = new int[ROOM];
        private int readings = 0;

        Copies() {
            for (int c = 0; c < ROOM; c++) {
                Arrays.fill(told[c], NONE);
            }
        }

        void replace(int c, int[] row) {
            System.arraycopy(row, 0, told[c], 0, SLOTS);
            readings++;
            readAs[c] = readings;
        }

        int countRead() {
            int sum = 0;
            for (int c = 0; c < ROOM; c++) {
                if (readAs[c] > 0) {
                    sum++;
                }
            }
            return sum;
        }

        int toldBy(int c, int s) {
            return told[c][s];
        }

        int mostTold(int s) {
            int best = 0;
            int bestVotes = 0;
            int bestRead = 0;
            for (int c = 0; c < ROOM; c++) {
                int votes = votesFor(told[c][s], s);
                if (votes > bestVotes || votes == bestVotes && votes > 0 && readAs[c] > bestRead) {
                    best = told[c][s];
                    bestVotes = votes;
                    bestRead = readAs[c];
                }
            }
            return best;
        }

        private int votesFor(int pieces, int s) {
            if (pieces == NONE) {
                return 0;
            }
            int votes = 0;
            for (int c = 0; c < ROOM; c++) {
                if (told[c][s] == pieces) {
                    votes++;
                }
            }
            return votes;
        }

        boolean differ(int s) {
            int first = NONE;
            for (int c = 0; c < ROOM; c++) {
                int pieces = told[c][s];
                if (pieces == NONE) {
                    continue;
                }
                if (first != NONE && first != pieces) {
                    return true;
                }
                first = pieces;
            }
            return false;
        }
    }

    private static final class Accounts {
        private static final int QUARTERS = LAST_DAY / QUARTER_DAYS;

        private final int[] unpaid = new int[SLOTS * QUARTERS];
        private final int[] owing = new int[SLOTS];
        private final int[] gifts = new int[SLOTS];
        private final int[] paidOff = new int[SLOTS];
        private final long[] lateOfPaid = new long[PLACES];

        /** Of pieces that come into the store: how many of them pay debts; the others become a gift. */
        int store(int s, int pieces, int day) {
            int left = pieces;
            for (int q = 0; q < QUARTERS && left > 0; q++) {
                left -= pay(s, q, left, day);
            }
            gifts[s] += left;
            return pieces - left;
        }

        void bringDebt(int s, int quarter, int pieces) {
            if (pieces <= 0 || !within(quarter, 0, QUARTERS - 1)) {
                return;
            }
            unpaid[s * QUARTERS + quarter] = pieces;
            owing[s] += pieces;
            gifts[s] -= pay(s, quarter, gifts[s], comingDay(quarter));
        }

        private int pay(int s, int quarter, int most, int day) {
            int part = Math.min(most, unpaid[s * QUARTERS + quarter]);
            unpaid[s * QUARTERS + quarter] -= part;
            owing[s] -= part;
            paidOff[s] += part;
            lateOfPaid[s / GOODS] += (long) part * (day - comingDay(quarter));
            return part;
        }

        private static int comingDay(int quarter) {
            return QUARTER_DAYS * (quarter + 1);
        }

        int owing(int s) {
            return owing[s];
        }

        int gift(int s) {
            return gifts[s];
        }

        int paid(int s) {
            return paidOff[s];
        }

        int oldestQuarter(int s) {
            for (int q = 0; q < QUARTERS; q++) {
                if (unpaid[s * QUARTERS + q] > 0) {
                    return q;
                }
            }
            return NONE;
        }

        long lateness(int town, int day) {
            long sum = lateOfPaid[town];
            for (int good = 0; good < GOODS; good++) {
                for (int q = 0; q < QUARTERS; q++) {
                    sum += (long) unpaid[slot(town, good) * QUARTERS + q] * (day - comingDay(q));
                }
            }
            return sum;
        }
    }

    /** A table with a row of columns for each sending, numbered as sending() asks for them. */
    private static final class Sendings {
        static final int TOWN = 0;
        static final int GOOD = 1;
        static final int PIECES = 2;
        static final int COLUMNS = 8;
        private static final int CARRIERS = 3;
        private static final int LEFT = 4;
        private static final int COMES = 5;
        private static final int STORED = 6;
        private static final int PAYING = 7;
        private static final int ROOM = 100;

        private final int[] table = new int[ROOM * COLUMNS];
        // Pieces are far too many to keep one by one: the order of storing tells where each came from.
        private final int[] storedOrder = new int[ROOM];
        private int storedCount = 0;
        private int storedPieces = 0;
        private int count = 0;

        boolean isFull() {
            return count >= ROOM;
        }

        int count() {
            return count;
        }

        int storedPieces() {
            return storedPieces;
        }

        int add(int town, int good, int pieces, int carriers, int left, int comes) {
            int base = count * COLUMNS;
            table[base + TOWN] = town;
            table[base + GOOD] = good;
            table[base + PIECES] = pieces;
            table[base + CARRIERS] = carriers;
            table[base + LEFT] = left;
            table[base + COMES] = comes;
            count++;
            return count - 1;
        }

        int entry(int k, int column) {
            return table[k * COLUMNS + column];
        }

        boolean comesOn(int k, int day) {
            return entry(k, COMES) == day && entry(k, STORED) == 0;
        }

        void markStored(int k, int paying) {
            if (storedCount >= ROOM) {
                return;
            }
            table[k * COLUMNS + STORED] = 1;
            table[k * COLUMNS + PAYING] = paying;
            storedOrder[storedCount] = k;
            storedCount++;
            storedPieces += entry(k, PIECES);
        }

        int ofPiece(int i) {
            int left = i;
            for (int n = 0; n < storedCount; n++) {
                int pieces = entry(storedOrder[n], PIECES);
                if (left < pieces) {
                    return storedOrder[n];
                }
                left -= pieces;
            }
            return NONE;
        }
    }

    private static final class Markets {
        static final int MOST_A_SIDE = 99;
        private static final int ROOM = 20;
        // No good comes twice, so a barter has fewer markets than there are goods.
        private static final int LONGEST = GOODS - 1;

        private final int[] fromGood = new int[ROOM];
        private final int[] given = new int[ROOM];
        private final int[] toGood = new int[ROOM];
        private final int[] gained = new int[ROOM];
        private int count = 0;

        private final int[] visited = new int[GOODS];
        private final int[] trail = new int[LONGEST];
        private final int[] found = new int[LONGEST];
        private int foundLength;
        private long foundAmount;
        private int goal;

        private final int[] best = new int[LONGEST];
        private int bestLength = 0;

        boolean isFull() {
            return count >= ROOM;
        }

        int count() {
            return count;
        }

        int add(int from, int a, int to, int b) {
            fromGood[count] = from;
            given[count] = a;
            toGood[count] = to;
            gained[count] = b;
            count++;
            return count - 1;
        }

        int bestLength() {
            return bestLength;
        }

        int bestStep(int i) {
            return best[i];
        }

        /** The most that n can become; NONE, and the former best stays, if there is no way. */
        long findBest(int from, int n, int to) {
            Arrays.fill(visited, 0);
            visited[from] = 1;
            goal = to;
            foundAmount = NONE;
            foundLength = 0;
            search(from, n, 0);
            if (foundAmount != NONE) {
                System.arraycopy(found, 0, best, 0, LONGEST);
                bestLength = foundLength;
            }
            return foundAmount;
        }

        // Trails come in the order of their markets' numbers, so of like ones the first one found stays.
        private void search(int good, long amount, int depth) {
            if (good == goal) {
                keepIfBetter(amount, depth);
                return;
            }
            if (depth >= LONGEST) {
                return;
            }
            for (int m = 0; m < count; m++) {
                int next = toGood[m];
                if (fromGood[m] == good && visited[next] == 0) {
                    trail[depth] = m;
                    visited[next] = 1;
                    search(next, exchanged(amount, m), depth + 1);
                    visited[next] = 0;
                }
            }
        }

        private long exchanged(long amount, int m) {
            int a = Math.max(1, given[m]);
            return amount / a * gained[m];
        }

        private void keepIfBetter(long amount, int length) {
            if (amount > foundAmount || amount == foundAmount && length < foundLength) {
                System.arraycopy(trail, 0, found, 0, length);
                foundLength = length;
                foundAmount = amount;
            }
        }
    }

    private static final class Shares {
        static final int MOST_YIELD = 10000;
        static final int MOST_PARTED = 100000;

        private final int[] yieldOf = new int[PLACES];

        void setYield(int town, int v) {
            yieldOf[town] = v;
        }

        int shareOf(int sum, int town) {
            int all = allYields();
            if (all <= 0) {
                return NONE;
            }
            int left = sum;
            int ahead = 0;
            long ownCut = (long) sum * yieldOf[town] % all;
            for (int t = 1; t < PLACES; t++) {
                long product = (long) sum * yieldOf[t];
                left -= (int) (product / all);
                long cut = product % all;
                if (cut > ownCut || cut == ownCut && t < town) {
                    ahead++;
                }
            }
            int whole = (int) ((long) sum * yieldOf[town] / all);
            // Less is left than there are towns with something cut off, so none gets a second one.
            return ahead < left ? whole + 1 : whole;
        }

        private int allYields() {
            int all = 0;
            for (int t = 1; t < PLACES; t++) {
                all += yieldOf[t];
            }
            return all;
        }
    }
}
