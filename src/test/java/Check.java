/** What every test of the project uses: counts wrong answers and puts texts on the tape. */
final class Check {
    private static int wrong = 0;
    private static String sentence = "";

    private Check() { }

    /** A call of which one argument is left open. */
    interface Call {
        long of(int v);
    }

    /** From here on wrong answers are told under these words of the document. */
    static void sentence(String words) {
        sentence = "[" + words + "] ";
    }

    static void due(String call, long got, long want) {
        if (got != want) {
            wrong++;
            System.out.println(sentence + call + " answered " + got + ", due is " + want);
        }
    }

    static void due(String call, boolean got, boolean want) {
        due(call, got ? 1L : 0L, want ? 1L : 0L);
    }

    /** One and the same answer for each of these values; the name of the call has an * for the value. */
    static void dueForAll(String call, int[] values, long want, Call asked) {
        for (int v : values) {
            due(call.replace("*", String.valueOf(v)), asked.of(v), want);
        }
    }

    /**
     * What lies outside of a bound: the first value at either end, the ends of int, and values that a narrower
     * number, or a sign that is lost, would take for one inside.
     */
    static int[] beyond(int least, int most) {
        int[] all = {least - 1, most + 1, Integer.MIN_VALUE, Integer.MAX_VALUE, least - 2, most + 2, -most - 1,
            least + 256, least + 65536, most + 65536, least - 65536, most + (1 << 30), least + Integer.MIN_VALUE,
            most + Integer.MIN_VALUE};
        return java.util.Arrays.stream(all).filter(v -> v < least || v > most).distinct().toArray();
    }

    static void finish() {
        System.out.println(wrong == 0 ? "all answers are as due" : wrong + " answers are not as due");
        if (wrong != 0) {
            System.exit(1);
        }
    }

    /** The tape holds this text alone; characters are bytes 0 to 255. */
    static void tape(TributeLists x, String text) {
        x.end(0);
        for (int at = 0; at < text.length(); at += 20) {
            x.feed(word(text, at), word(text, at + 4), word(text, at + 8), word(text, at + 12), word(text, at + 16));
        }
        due("end(" + text.length() + ")", x.end(text.length()), text.length());
    }

    static int read(TributeLists x, int c, String text) {
        tape(x, text);
        return x.copy(c);
    }

    static int word(String text, int at) {
        int w = 0;
        for (int i = at; i < at + 4; i++) {
            w = w << 8 | (i < text.length() ? text.charAt(i) & 255 : 0);
        }
        return w;
    }

    /** Days beyond what one call takes. */
    static void pass(TributeLists x, int days) {
        int left = days;
        while (left > 0) {
            int n = Math.min(100, left);
            x.days(n);
            left -= n;
        }
    }
}
