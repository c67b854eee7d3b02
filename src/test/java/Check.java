/** What the tests share: the comparison that counts, and the way a text comes onto a tape. */
final class Check {
    private static int wrong = 0;
    private static String sentence = "";

    private Check() {
    }

    /** From here on the calls are about these words of the document; a wrong answer names them. */
    static void sentence(String where, String words) {
        sentence = where + ", \"" + words + "\": ";
    }

    static void due(String call, long got, long want) {
        if (got != want) {
            wrong++;
            System.out.println(sentence + call + " answered " + got + ", due is " + want);
        }
    }

    static void due(String call, boolean got, boolean want) {
        due(call, got ? 1L : 0L, want ? 1L : 0L);
    }

    /** Feeds whole rows of twenty bytes, blanks behind the text, and then cuts these off. */
    static void tape(ClaimsFund fund, String text) {
        int length = 0;
        for (int at = 0; at < text.length(); at += 20) {
            length = fund.feed(four(text, at), four(text, at + 4), four(text, at + 8), four(text, at + 12),
                four(text, at + 16));
        }
        int spare = (20 - text.length() % 20) % 20;
        fund.end(length - spare);
    }

    static int four(String text, int at) {
        int all = 0;
        for (int i = at; i < at + 4; i++) {
            all = all << 8 | (i < text.length() ? text.charAt(i) : ' ');
        }
        return all;
    }

    static int grid(ClaimsFund fund, String text) {
        tape(fund, text);
        return fund.grid();
    }

    /** A new object with this grid. */
    static ClaimsFund withGrid(String text) {
        ClaimsFund fund = new ClaimsFund();
        grid(fund, text);
        return fund;
    }

    /** A new object with this fund and one judged claim, 0, of 10 points. */
    static ClaimsFund withOneJudged(long coins) {
        ClaimsFund fund = withGrid("points 10;");
        fund.fund(coins);
        fund.claim(0, 0, 0, 0, 0);
        fund.judge(0);
        return fund;
    }

    /** All that can be asked for without a change, but for the tape; it takes some 20 + 20 calls a claim. */
    static String told(ClaimsFund fund) {
        StringBuilder told = new StringBuilder();
        for (int what = 0; what < 7; what++) {
            told.append("count ").append(fund.count(what));
            told.append(what < 4 ? " sum " + fund.sum(what) : "").append('\n');
        }
        told.append("fault ").append(fund.fault(0)).append(" at ").append(fund.fault(1)).append('\n');
        told.append("points ").append(fund.points(0, 0, 0, 0)).append(' ').append(fund.points(1, 9, 9, 63));
        told.append('\n');
        for (int claim = 0; claim < fund.count(0); claim++) {
            told.append("claim ").append(claim).append(':');
            for (int what = 0; what < 12; what++) {
                told.append(' ').append(fund.tell(claim, what));
            }
            appendMoney(told, fund, claim);
        }
        return told.toString();
    }

    private static void appendMoney(StringBuilder told, ClaimsFund fund, int claim) {
        told.append(" money");
        for (int what = 0; what < 6; what++) {
            told.append(' ').append(fund.money(claim, what));
        }
        for (int lien = 0; lien < fund.tell(claim, 10); lien++) {
            told.append(" lien ").append(fund.money(claim, 10 + lien));
        }
        for (int heir = 0; heir < fund.tell(claim, 11); heir++) {
            told.append(" heir ").append(fund.money(claim, 20 + heir));
        }
        told.append('\n');
    }

    static void unchanged(String call, ClaimsFund fund, String before) {
        String after = told(fund);
        if (!after.equals(before)) {
            due(call + ": what is told is as before", false, true);
            System.out.println("before it:\n" + before + "behind it:\n" + after);
        }
    }

    static void end() {
        System.out.println(wrong == 0 ? "all answers are as due" : wrong + " answers are not as due");
        if (wrong != 0) {
            System.exit(1);
        }
    }
}
