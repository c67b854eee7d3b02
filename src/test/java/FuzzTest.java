/**
 * Long runs of calls, picked by a generator that always goes the same way, on ClaimsFund and on Model: both
 * must answer alike, and what the document says of all states must hold in each.
 */
public final class FuzzTest {
    private static final int RUNS = 300;
    // What later calls answer is free.
    private static final int CALLS = 512;
    private static final int MOST_OF_A_STEP = 40;
    private static final int[] MONEY = {0, 1, 2, 3, 4, 5, 10, 11, 12, 13, 20, 21, 22, 23};
    private static final int[] EDGES = {Integer.MIN_VALUE, -1, 0, 1, 15, 16, 17, 31, 32, 63, 64, 100, 1000000,
        Integer.MAX_VALUE};
    private static final String[] SUBJECTS = {"kind", "years", "late", "papers", "sum"};
    private static final String[] SIGNS = {"<", ">", "="};
    private static final String[] ACTS = {"points", "more", "more", "more", "times"};
    private static final String[] TOKENS = {"when", "and", "not", "kind", "paper", "papers", "points", "none", ":",
        ";", "<", "5", "12345", "x", "#", "?", "/"};

    private final ClaimsFund fund = new ClaimsFund();
    private final Model model = new Model();
    private final int run;
    private int call;
    private long seed;

    private FuzzTest(int run) {
        this.run = run;
        seed = 0x9E3779B97F4A7C15L * (run + 1);
    }

    public static void main(String[] args) {
        for (int run = 0; run < RUNS; run++) {
            new FuzzTest(run).go();
        }
        Check.end();
    }

    /** Every other run stops early, so that calls are left to compare all that can be asked for. */
    private void go() {
        int stop = run % 2 == 0 ? CALLS : pick(100, 400);
        while (call + MOST_OF_A_STEP < stop) {
            step();
        }
        compareAll();
    }

    private int pick(int bound) {
        seed = seed * 6364136223846793005L + 1442695040888963407L;
        return (int) Long.remainderUnsigned(seed >>> 33, bound);
    }

    private int pick(int least, int most) {
        return least + pick(most - least + 1);
    }

    /** Mostly a number that is allowed, now and then one at an edge of any limit. */
    private int some(int least, int most) {
        return pick(25) == 0 ? EDGES[pick(EDGES.length)] : pick(40) == 0 ? most + pick(2) : pick(least, most);
    }

    private void due(String what, long got, long want) {
        call++;
        Check.due("run " + run + ", call " + call + ": " + what, got, want);
    }

    private void due(String what, boolean got, boolean want) {
        due(what, got ? 1 : 0, want ? 1 : 0);
    }

    private void step() {
        int which = pick(100);
        if (which < 8) {
            tellGrid();
        } else if (which < 55) {
            changeClaims();
        } else if (which < 75) {
            changeMoney();
        } else {
            ask();
        }
    }

    private String number() {
        return "" + (pick(3) == 0 ? pick(10000) : pick(3) == 0 ? pick(120) : pick(10));
    }

    private String test() {
        String not = pick(3) == 0 ? "not " : "";
        if (pick(2) == 0) {
            return not + "paper " + (pick(40) == 0 ? pick(9) : pick(6));
        }
        return not + SUBJECTS[pick(SUBJECTS.length)] + SIGNS[pick(3)] + number();
    }

    private String line() {
        StringBuilder line = new StringBuilder();
        if (pick(3) > 0) {
            line.append("when ").append(test());
            int more = pick(60) == 0 ? 5 : pick(3);
            for (int i = 0; i < more; i++) {
                line.append(" and ").append(test());
            }
            line.append(pick(2) == 0 ? ":" : " :\n");
        }
        if (pick(12) == 0) {
            return line.append("none;").toString();
        }
        return line.append(ACTS[pick(ACTS.length)]).append(pick(9) == 0 ? "" : " ").append(number()).append(';')
            .toString();
    }

    private String text() {
        StringBuilder text = new StringBuilder();
        int lines = pick(9) == 0 ? pick(20) : pick(1, 6);
        for (int i = 0; i < lines; i++) {
            text.append(pick(10) == 0 && lines > 9 ? "none;" : line()).append(pick(3) == 0 ? " " : "");
        }
        if (pick(4) == 0 && text.length() > 0) {
            int at = pick(text.length());
            switch (pick(4)) {
                case 0: text.setCharAt(at, (char) pick(256)); break;
                case 1: text.deleteCharAt(at); break;
                case 2: text.setLength(at); break;
                default: text.insert(at, " " + TOKENS[pick(TOKENS.length)] + " "); break;
            }
        }
        return text.length() > 380 ? text.substring(0, 380) : text.toString();
    }

    private void tellGrid() {
        String text = text();
        for (int at = 0; at < text.length(); at += 20) {
            int[] w = new int[5];
            for (int i = 0; i < 5; i++) {
                w[i] = Check.four(text, at + 4 * i);
            }
            due("feed", fund.feed(w[0], w[1], w[2], w[3], w[4]), model.feed(w));
        }
        int n = some(0, 400);
        due("end(" + n + ")", fund.end(n), model.end(n));
        due("end", fund.end(text.length()), model.end(text.length()));
        if (pick(20) > 0) {
            due("grid() of " + text, fund.grid(), model.grid());
        }
        due("fault(0) of " + text, fund.fault(0), model.fault(0));
        due("fault(1) of " + text, fund.fault(1), model.fault(1));
    }

    private int claimNumber() {
        return some(0, pick(2) == 0 ? 3 : 15);
    }

    private void changeClaims() {
        int claim = claimNumber();
        int other = pick(6);
        switch (pick(8)) {
            case 0: case 1:
                int[] f = {some(0, pick(2) == 0 ? 5 : 99), some(0, 3), some(0, 60), some(0, 999), some(0, 63)};
                due("claim", fund.claim(f[0], f[1], f[2], f[3], f[4]), model.claim(f[0], f[1], f[2], f[3], f[4]));
                break;
            case 2:
                int paper = some(0, 5);
                due("paper(" + claim + ", " + paper + ")", fund.paper(claim, paper), model.paper(claim, paper));
                break;
            case 3: case 4: case 5:
                due("judge(" + claim + ")", fund.judge(claim), model.judge(claim));
                break;
            case 6:
                int points = pick(5) == 0 ? some(0, 1000000) : some(0, 200);
                due("appeal(" + claim + ", " + points + ")", fund.appeal(claim, points), model.appeal(claim, points));
                break;
            default:
                due("out(" + claim + ", " + other + ")", fund.out(claim, other > 3), model.out(claim, other > 3));
                break;
        }
    }

    private long someCoins(long most) {
        switch (pick(6)) {
            case 0: return pick(100);
            case 1: return most - pick(100) + 5;
            case 2: return pick(30) == 0 ? Long.MIN_VALUE + pick(2) : pick(1000000);
            case 3: return 1 + pick(Integer.MAX_VALUE) * 465L % most;
            default: return pick(100000);
        }
    }

    private void changeMoney() {
        int claim = claimNumber();
        int small = some(1, 9);
        switch (pick(pick(30) == 0 ? 9 : 7)) {
            case 0:
                long coins = someCoins(1000000000000L);
                due("fund(" + coins + ")", fund.fund(coins), model.fund(coins));
                break;
            case 1:
                int percent = some(0, 40);
                due("fee(" + claim + ", " + percent + ")", fund.fee(claim, percent), model.fee(claim, percent));
                break;
            case 2:
                long owed = someCoins(1000000000L);
                due("lien(" + claim + ")", fund.lien(claim, small, owed), model.lien(claim, small, owed));
                break;
            case 3:
                due("heir(" + claim + ", " + small + ")", fund.heir(claim, small), model.heir(claim, small));
                break;
            case 4:
                int share = some(1, pick(3) == 0 ? 100 : 30);
                due("wave(" + share + ")", fund.wave(share), model.wave(share));
                break;
            case 5:
                due("image(" + small % 4 + ")", fund.image(small % 4), model.image(small % 4));
                break;
            case 6:
                due("again(" + small % 4 + ")", fund.again(small % 4), model.again(small % 4));
                break;
            default:
                leaveNoneOpen();
                due("finish()", fund.finish(), model.finish());
                checkTheEnd();
                break;
        }
    }

    /** So that the end comes in some runs: no claim stays open. */
    private void leaveNoneOpen() {
        for (int claim = 0; claim < 16; claim++) {
            due("judge(" + claim + ")", fund.judge(claim), model.judge(claim));
            if (model.tell(claim, 5) == 0) {
                due("out(" + claim + ", true)", fund.out(claim, true), model.out(claim, true));
            }
        }
    }

    private void ask() {
        int claim = claimNumber();
        int what = some(0, 24);
        switch (pick(6)) {
            case 0:
                int[] f = {some(0, 3), some(0, 60), some(0, 999), some(0, 63)};
                due("points", fund.points(f[0], f[1], f[2], f[3]), model.points(f[0], f[1], f[2], f[3]));
                break;
            case 1:
                int paper = some(0, 5);
                due("lacks(" + claim + ", " + paper + ")", fund.lacks(claim, paper), model.lacks(claim, paper));
                break;
            case 2:
                due("tell(" + claim + ", " + what + ")", fund.tell(claim, what), model.tell(claim, what));
                break;
            case 3:
                due("money(" + claim + ", " + what + ")", fund.money(claim, what), model.money(claim, what));
                break;
            case 4:
                due("sum(" + what % 6 + ")", fund.sum(what % 6), model.sum(what % 6));
                break;
            default:
                due("count(" + what % 9 + ")", fund.count(what % 9), model.count(what % 9));
                break;
        }
    }

    private boolean leaves(int calls) {
        return call + calls <= CALLS;
    }

    private void compareAll() {
        for (int what = -1; what < 8 && leaves(2); what++) {
            due("sum(" + what + ")", fund.sum(what), model.sum(what));
            due("count(" + what + ")", fund.count(what), model.count(what));
        }
        int first = pick(16);
        for (int i = 0; i < 16; i++) {
            compareClaim((first + i) % 16);
        }
    }

    private void compareClaim(int claim) {
        for (int what = 0; what < 12 && leaves(1); what++) {
            due("tell(" + claim + ", " + what + ")", fund.tell(claim, what), model.tell(claim, what));
        }
        for (int i = 0; i < MONEY.length && leaves(1); i++) {
            due("money(" + claim + ", " + MONEY[i] + ")", fund.money(claim, MONEY[i]), model.money(claim, MONEY[i]));
        }
        if (leaves(7) && model.tell(claim, 0) >= 0) {
            checkParts(claim);
        }
    }

    private void checkParts(int claim) {
        long parts = fund.money(claim, 2) + fund.money(claim, 3) + fund.money(claim, 4) + fund.money(claim, 5);
        call += 4;
        due("parts of " + claim, parts, fund.money(claim, 1));
        if (model.count(6) == 0) {
            call++;
            due("it holds for " + claim, fund.money(claim, 1) <= fund.money(claim, 0), true);
        }
    }

    private void checkTheEnd() {
        if (model.count(6) == 1) {
            call++;
            due("paid in all at the end", fund.sum(1), fund.sum(0));
        }
    }
}
