/** What every test of the project uses: counts wrong answers and puts texts on the tape. */
final class Check {
    private static int wrong = 0;

    private Check() { }

    static void due(String call, long got, long want) {
        if (got != want) {
            wrong++;
            System.out.println(call + " answered " + got + ", due is " + want);
        }
    }

    static void due(String call, boolean got, boolean want) {
        due(call, got ? 1L : 0L, want ? 1L : 0L);
    }

    static void finish() {
        System.out.println(wrong == 0 ? "all answers are as due" : wrong + " answers are not as due");
        if (wrong != 0) {
            System.exit(1);
        }
    }

    /** The tape holds this text alone; characters are bytes 0 to 255. */
    static void tape(TributeLists x, String text) {
        x.end(0);
        for (int at = 0; at < text.length(); at += 20) {
            x.feed(word(text, at), word(text, at + 4), word(text, at + 8), word(text, at + 12), word(text, at + 16));
        }
        due("end(" + text.length() + ")", x.end(text.length()), text.length());
    }

    static int read(TributeLists x, int c, String text) {
        tape(x, text);
        return x.copy(c);
    }

    static int word(String text, int at) {
        int w = 0;
        for (int i = at; i < at + 4; i++) {
            w = w << 8 | (i < text.length() ? text.charAt(i) & 255 : 0);
        }
        return w;
    }

    /** Days beyond what one call takes. */
    static void pass(TributeLists x, int days) {
        int left = days;
        while (left > 0) {
            int n = Math.min(100, left);
            x.days(n);
            left -= n;
        }
    }
}
