/** What the tests share: the comparison that counts, and the way a text comes onto a tape. */
final class Check {
    private static int wrong = 0;

    private Check() {
    }

    static void due(String call, long got, long want) {
        if (got != want) {
            wrong++;
            System.out.println(call + " answered " + got + ", due is " + want);
        }
    }

    static void due(String call, boolean got, boolean want) {
        due(call, got ? 1L : 0L, want ? 1L : 0L);
    }

    /** Feeds whole rows of twenty bytes, blanks behind the text, and then cuts these off. */
    static void tape(ClaimsFund fund, String text) {
        int length = 0;
        for (int at = 0; at < text.length(); at += 20) {
            length = fund.feed(four(text, at), four(text, at + 4), four(text, at + 8), four(text, at + 12),
                four(text, at + 16));
        }
        int spare = (20 - text.length() % 20) % 20;
        fund.end(length - spare);
    }

    static int four(String text, int at) {
        int all = 0;
        for (int i = at; i < at + 4; i++) {
            all = all << 8 | (i < text.length() ? text.charAt(i) : ' ');
        }
        return all;
    }

    static int grid(ClaimsFund fund, String text) {
        tape(fund, text);
        return fund.grid();
    }

    /** A new object with this grid. */
    static ClaimsFund withGrid(String text) {
        ClaimsFund fund = new ClaimsFund();
        grid(fund, text);
        return fund;
    }

    static void end() {
        System.out.println(wrong == 0 ? "all answers are as due" : wrong + " answers are not as due");
        if (wrong != 0) {
            System.exit(1);
        }
    }
}
