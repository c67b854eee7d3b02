/** One test for each sentence about coins that names a boundary: terms 3 and 4, promises 1, 2 and 15 to 22. */
public final class MoneyEdgesTest {
    private static final int LEAST = Integer.MIN_VALUE;
    private static final int GREATEST = Integer.MAX_VALUE;
    private static final int[] NO_CLAIMS = {-1, 1, 2, 15, 16, 17, LEAST, GREATEST};
    private static final long MOST_FUND = 1000000000000L;

    private MoneyEdgesTest() {
    }

    public static void main(String[] args) {
        newFund();
        newWithoutClaims();
        newWithoutGrid();
        newWithoutImages();
        newKnowsNoOther();
        fundAtTheEdges();
        fundOfAnotherNumber();
        fundWhenOneWasPaid();
        fundBehindTheEnd();
        worstIsCut();
        worstWithoutPoints();
        worstDoesNotWrap();
        waveAtTheEdges();
        waveOfJudgedOnes();
        waveIsCut();
        waveAboveWhatWasPaid();
        waveOfAnotherPercent();
        waveBehindTheEnd();
        waveOfNobody();
        finishWithAnOpenOne();
        finishWithoutPoints();
        finishTwice();
        finishCountsItsOwn();
        finishUpToTheShare();
        finishWithNothingLeft();
        finishGreatestRests();
        finishOfSeveralTheLeast();
        finishCoinByCoin();
        nothingChangesBehindTheEnd();
        moneyEach();
        moneyOfNoSuchClaim();
        moneyOfAnotherWhat();
        moneyOfNoSuchLienOrHeir();
        feeAtTheEdges();
        feeOfAnotherPercent();
        feeIsCut();
        feeOfEachPayment();
        heirsOfEachPayment();
        feeFromNowOn();
        feeOfNoSuchClaim();
        feeBehindTheEnd();
        lienAtTheEdges();
        lienAndHeirOfAnyClaim();
        lienOfOtherNumbers();
        fifthLien();
        lienOnNoSuchClaim();
        lienBehindTheEnd();
        liensByRank();
        liensUpToWhatTheyAre();
        liensOfTheRestOfTheFee();
        heirAtTheEdges();
        heirWithAnotherPart();
        fifthHeir();
        heirOfNoSuchClaim();
        heirBehindTheEnd();
        heirsByParts();
        heirsLeftOver();
        withoutHeirs();
        toldLater();
        greatestPayment();
        sums();
        sumOfAnotherWhat();
        counts();
        countOfAnotherWhat();
        Check.end();
    }

    /** So many judged claims of 10 points each, persons 0 and on. */
    private static ClaimsFund alike(int claims, long coins) {
        ClaimsFund x = Check.withGrid("points 10;");
        x.fund(coins);
        for (int i = 0; i < claims; i++) {
            x.claim(i, 0, 0, 0, 0);
            x.judge(i);
        }
        return x;
    }

    private static ClaimsFund ended() {
        ClaimsFund x = Check.withOneJudged(1000);
        x.finish();
        return x;
    }

    private static void newFund() {
        Check.sentence("Promise 1", "A FUND of 1000 coins");
        Check.due("sum(0)", new ClaimsFund().sum(0), 1000);
        ClaimsFund x = Check.withGrid("points 1;");
        x.claim(0, 0, 0, 0, 0);
        x.judge(0);
        Check.due("finish()", x.finish(), 1000);
    }

    private static void newWithoutClaims() {
        Check.sentence("Promise 1", "no CLAIMS");
        ClaimsFund x = new ClaimsFund();
        for (int what = 0; what < 7; what++) {
            Check.due("count(" + what + ")", x.count(what), 0);
        }
        Check.due("sum(1)", x.sum(1), 0);
        Check.due("sum(2)", x.sum(2), 0);
        Check.due("sum(3)", x.sum(3), 0);
        Check.due("tell(0, 0)", x.tell(0, 0), -1);
        Check.due("the first claim", x.claim(0, 0, 0, 0, 0), 0);
    }

    private static void newWithoutGrid() {
        Check.sentence("Promise 1", "no GRID (POINTS are 0)");
        ClaimsFund x = new ClaimsFund();
        Check.due("points(0, 0, 0, 0)", x.points(0, 0, 0, 0), 0);
        Check.due("points(3, 60, 999, 63)", x.points(3, 60, 999, 63), 0);
        Check.due("count(4)", x.count(4), 0);
        x.claim(0, 3, 60, 999, 1);
        Check.due("most", x.tell(0, 7), 0);
        Check.due("lacks(0, 1)", x.lacks(0, 1), 0);
        Check.due("judge(0)", x.judge(0), 0);
    }

    private static void newWithoutImages() {
        Check.sentence("Promise 1", "no images");
        ClaimsFund x = new ClaimsFund();
        for (int k = -1; k <= 3; k++) {
            Check.due("again(" + k + ")", x.again(k), false);
        }
    }

    private static void newKnowsNoOther() {
        Check.sentence("Promise 1", "A new object (it has nothing of another)");
        ClaimsFund x = alike(3, 50);
        x.image(0);
        Check.tape(x, "points");
        ClaimsFund y = new ClaimsFund();
        Check.due("sum(0)", y.sum(0), 1000);
        Check.due("count(0)", y.count(0), 0);
        Check.due("points(0, 0, 0, 0)", y.points(0, 0, 0, 0), 0);
        Check.due("again(0)", y.again(0), false);
        Check.due("end(1)", y.end(1), -1);
        y.fund(7);
        y.claim(5, 0, 0, 0, 0);
        Check.due("sum(0) of the other", x.sum(0), 50);
        Check.due("count(0) of the other", x.count(0), 3);
    }

    private static void fundAtTheEdges() {
        Check.sentence("Promise 2", "THE FUND is another one: true (1 .. 1000000000000)");
        ClaimsFund x = new ClaimsFund();
        for (long coins : new long[] {1, 2, GREATEST, 2147483648L, 4294967296L, MOST_FUND - 1, MOST_FUND}) {
            Check.due("fund(" + coins + ")", x.fund(coins), true);
            Check.due("sum(0)", x.sum(0), coins);
        }
        ClaimsFund y = Check.withOneJudged(1);
        Check.due("finish() with the least fund", y.finish(), 1);
        ClaimsFund z = Check.withOneJudged(MOST_FUND);
        Check.due("finish() with the greatest fund", z.finish(), MOST_FUND);
    }

    private static void fundOfAnotherNumber() {
        Check.sentence("Promise 2", "false: another number");
        ClaimsFund x = new ClaimsFund();
        for (long coins : new long[] {0, -1, -1000, MOST_FUND + 1, Long.MIN_VALUE, Long.MAX_VALUE}) {
            Check.due("fund(" + coins + ")", x.fund(coins), false);
            Check.due("sum(0)", x.sum(0), 1000);
        }
    }

    private static void fundWhenOneWasPaid() {
        Check.sentence("Promise 2", "false: .. some CLAIM was PAID");
        ClaimsFund x = alike(2, 199);
        Check.due("wave(1), cut to nothing", x.wave(1), 0);
        Check.due("fund(200) when nobody was paid", x.fund(200), true);
        x.out(1, true);
        Check.due("fund(100)", x.fund(100), true);
        Check.due("wave(1), one coin", x.wave(1), 1);
        String before = Check.told(x);
        Check.due("fund(101) when one was paid", x.fund(101), false);
        Check.due("fund(1)", x.fund(1), false);
        Check.unchanged("fund", x, before);
        ClaimsFund y = alike(2, 1000);
        y.out(0, true);
        y.wave(1);
        Check.due("fund(2000) when the second was paid", y.fund(2000), false);
    }

    private static void fundBehindTheEnd() {
        Check.sentence("Promise 2", "false: .. or THE END was");
        ClaimsFund x = ended();
        String before = Check.told(x);
        Check.due("fund(2000)", x.fund(2000), false);
        Check.due("fund(1)", x.fund(1), false);
        Check.unchanged("fund", x, before);
    }

    private static void worstIsCut() {
        Check.sentence("Term 3", "WORST of a CLAIM: FUND * LEAST / ALL, cut");
        ClaimsFund x = Check.withGrid("points 1; when paper 0: points 2;");
        x.claim(0, 0, 0, 0, 0);
        Check.due("1000 * 1 / 2", x.money(0, 0), 500);
        x.claim(1, 0, 0, 0, 1);
        Check.due("1000 * 1 / 4", x.money(0, 0), 250);
        Check.due("1000 * 2 / 4", x.money(1, 0), 500);
        x.judge(0);
        Check.due("1000 * 1 / 3", x.money(0, 0), 333);
        Check.due("1000 * 2 / 3", x.money(1, 0), 666);
        x.fund(2);
        Check.due("2 * 1 / 3", x.money(0, 0), 0);
        Check.due("2 * 2 / 3", x.money(1, 0), 1);
        x.fund(3);
        Check.due("3 * 1 / 3", x.money(0, 0), 1);
        x.out(0, true);
        Check.due("of one that is out", x.money(0, 0), 0);
        Check.due("of the only one", x.money(1, 0), 3);
    }

    private static void worstWithoutPoints() {
        Check.sentence("Term 3", "(0 if ALL is 0)");
        ClaimsFund x = new ClaimsFund();
        x.claim(0, 0, 0, 0, 0);
        Check.due("worst of an open one", x.money(0, 0), 0);
        x.judge(0);
        Check.due("worst of a judged one", x.money(0, 0), 0);
        Check.due("wave(100)", x.wave(100), 0);
        x.out(0, true);
        Check.due("worst of one that is out", x.money(0, 0), 0);
        ClaimsFund y = Check.withGrid("when papers=6: points 1;");
        y.claim(0, 0, 0, 0, 0);
        Check.due("worst with a least of 0", y.money(0, 0), 0);
    }

    private static void worstDoesNotWrap() {
        Check.sentence("Term 3", "FUND * LEAST / ALL (no wrap-around)");
        ClaimsFund x = alike(2, MOST_FUND);
        x.appeal(0, 1000000);
        x.appeal(1, 1);
        Check.due("worst of 1000000 points", x.money(0, 0), 999999000000L);
        Check.due("worst of 1 point", x.money(1, 0), 999999L);
        x.appeal(1, 1000000);
        Check.due("worst of one half", x.money(1, 0), 500000000000L);
        Check.due("wave(99)", x.wave(99), 990000000000L);
    }

    private static void waveAtTheEdges() {
        Check.sentence("Promise 19", "A WAVE: how many coins were PAID (1 .. 100)");
        ClaimsFund x = alike(1, 1000);
        Check.due("wave(1)", x.wave(1), 10);
        Check.due("wave(2)", x.wave(2), 10);
        Check.due("wave(99)", x.wave(99), 970);
        Check.due("wave(100)", x.wave(100), 10);
        Check.due("wave(100) again", x.wave(100), 0);
        Check.due("count(5)", x.count(5), 5);
        Check.due("sum(1)", x.sum(1), 1000);
        Check.due("count(6)", x.count(6), 0);
        Check.due("wave(100) of 16", alike(16, 1600).wave(100), 1600);
    }

    private static void waveOfJudgedOnes() {
        Check.sentence("Term 3", "each JUDGED CLAIM (no other)");
        ClaimsFund x = Check.withGrid("points 10;");
        for (int i = 0; i < 4; i++) {
            x.claim(i, 0, 0, 0, 0);
        }
        Check.due("wave(100) of open ones", x.wave(100), 0);
        x.judge(3);
        x.judge(1);
        x.out(2, true);
        Check.due("wave(100)", x.wave(100), 666);
        long[] want = {0, 333, 0, 333};
        for (int i = 0; i < 4; i++) {
            Check.due("paid " + i, x.money(i, 1), want[i]);
        }
    }

    private static void waveIsCut() {
        Check.sentence("Term 3", "what WORST * percent / 100, cut");
        ClaimsFund x = alike(3, 1000);
        Check.due("wave(1), three times 333 * 1 / 100", x.wave(1), 9);
        Check.due("wave(10)", x.wave(10), 90);
        Check.due("paid 33", x.money(0, 1), 33);
        Check.due("wave(50)", x.wave(50), 399);
        Check.due("paid 166", x.money(2, 1), 166);
        Check.due("wave(100)", x.wave(100), 501);
        Check.due("wave(99) of 1 coin", alike(1, 1).wave(99), 0);
        Check.due("wave(100) of 1 coin", alike(1, 1).wave(100), 1);
        Check.due("wave(50) of 1 coin", alike(1, 1).wave(50), 0);
        Check.due("wave(50) of 2 coins", alike(1, 2).wave(50), 1);
        Check.due("wave(90), three times 3 * 90 / 100", alike(3, 11).wave(90), 6);
    }

    private static void waveAboveWhatWasPaid() {
        Check.sentence("Term 3", "is above what it was PAID so far");
        ClaimsFund x = alike(2, 1000);
        Check.due("wave(50)", x.wave(50), 500);
        Check.due("wave(50) again", x.wave(50), 0);
        Check.due("wave(49)", x.wave(49), 0);
        Check.due("wave(1)", x.wave(1), 0);
        Check.due("paid 0", x.money(0, 1), 250);
        x.appeal(1, 20);
        Check.due("wave(50) for one that has more points", x.wave(50), 83);
        Check.due("paid 0", x.money(0, 1), 250);
        Check.due("paid 1", x.money(1, 1), 333);
        Check.due("wave(51)", x.wave(51), 6);
    }

    private static void waveOfAnotherPercent() {
        Check.sentence("Promise 19", "-1: another percent");
        ClaimsFund x = alike(2, 1000);
        String before = Check.told(x);
        for (int percent : new int[] {0, -1, 101, 200, -100, LEAST, GREATEST}) {
            Check.due("wave(" + percent + ")", x.wave(percent), -1);
        }
        Check.unchanged("wave", x, before);
    }

    private static void waveBehindTheEnd() {
        Check.sentence("Promise 19", "-1: .. or THE END was");
        ClaimsFund x = alike(2, 1000);
        x.wave(10);
        x.finish();
        String before = Check.told(x);
        Check.due("wave(100)", x.wave(100), -1);
        Check.due("wave(1)", x.wave(1), -1);
        Check.unchanged("wave", x, before);
    }

    private static void waveOfNobody() {
        Check.sentence("Promise 22", "5 WAVES (one that pays nothing is one, a refused one is none)");
        ClaimsFund x = new ClaimsFund();
        Check.due("wave(100) without claims", x.wave(100), 0);
        Check.due("count(5)", x.count(5), 1);
        x.wave(0);
        x.wave(101);
        Check.due("count(5)", x.count(5), 1);
        x.claim(0, 0, 0, 0, 0);
        Check.due("wave(1) of an open one", x.wave(1), 0);
        Check.due("count(5)", x.count(5), 2);
    }

    private static void finishWithAnOpenOne() {
        Check.sentence("Promise 20", "-1: some CLAIM is OPEN");
        for (int open = 0; open < 3; open++) {
            ClaimsFund x = Check.withGrid("when kind=0: points 10;");
            for (int i = 0; i < 3; i++) {
                x.claim(i, i == open ? 1 : 0, 0, 0, 0);
            }
            x.judge((open + 1) % 3);
            x.judge((open + 2) % 3);
            String before = Check.told(x);
            Check.due("finish() with claim " + open + " open, without points", x.finish(), -1);
            Check.unchanged("finish", x, before);
            x.out(open, true);
            Check.due("finish() when it is out", x.finish(), 1000);
        }
    }

    private static void finishWithoutPoints() {
        Check.sentence("Promise 20", "-1: .. ALL is 0");
        ClaimsFund x = Check.withOneJudged(1000);
        x.appeal(0, 0);
        String before = Check.told(x);
        Check.due("finish() of no points", x.finish(), -1);
        Check.unchanged("finish", x, before);
        x.appeal(0, 1);
        Check.due("finish() of one point", x.finish(), 1000);
        Check.due("finish() without claims", new ClaimsFund().finish(), -1);
        ClaimsFund y = Check.withOneJudged(1000);
        y.out(0, true);
        Check.due("finish() when all are out", y.finish(), -1);
        Check.due("count(6)", y.count(6), 0);
        Check.due("out(0, false), since it was no end", y.out(0, false), true);
    }

    private static void finishTwice() {
        Check.sentence("Promise 20", "-1: .. or it was");
        ClaimsFund x = alike(2, 1001);
        Check.due("finish()", x.finish(), 1001);
        Check.due("count(6)", x.count(6), 1);
        String before = Check.told(x);
        Check.due("finish() again", x.finish(), -1);
        Check.unchanged("finish", x, before);
    }

    private static void finishCountsItsOwn() {
        Check.sentence("Promise 20", "THE END: how many coins were PAID by it");
        ClaimsFund x = alike(3, 1000);
        x.wave(50);
        Check.due("sum(1)", x.sum(1), 498);
        Check.due("finish()", x.finish(), 502);
        Check.due("sum(1)", x.sum(1), 1000);
        Check.due("count(5), no wave more", x.count(5), 1);
        ClaimsFund y = alike(2, 1000);
        y.wave(100);
        Check.due("finish() when all was paid", y.finish(), 0);
        Check.due("count(6)", y.count(6), 1);
    }

    private static void finishUpToTheShare() {
        Check.sentence("Term 3", "each JUDGED one is PAID up to FUND * POINTS / ALL, cut");
        ClaimsFund x = Check.withGrid("when kind=0: points 1; when kind=1: points 3;");
        for (int i = 0; i < 4; i++) {
            x.claim(i, i, 0, 0, 0);
        }
        x.out(3, true);
        for (int i = 0; i < 3; i++) {
            x.judge(i);
        }
        x.fund(400);
        x.wave(33);
        Check.due("paid 0 by the wave", x.money(0, 1), 33);
        Check.due("finish()", x.finish(), 400 - 33 - 99);
        long[] want = {100, 300, 0, 0};
        for (int i = 0; i < 4; i++) {
            Check.due("paid " + i, x.money(i, 1), want[i]);
        }
    }

    private static void finishWithNothingLeft() {
        Check.sentence("Term 3", "what is left over by all that (nothing is left, or as much as can be)");
        ClaimsFund x = alike(4, 1000);
        Check.due("finish()", x.finish(), 1000);
        for (int i = 0; i < 4; i++) {
            Check.due("paid " + i, x.money(i, 1), 250);
        }
        ClaimsFund y = alike(16, 15);
        Check.due("finish() of 15 coins for 16", y.finish(), 15);
        for (int i = 0; i < 16; i++) {
            Check.due("paid " + i, y.money(i, 1), i < 15 ? 1 : 0);
        }
        ClaimsFund z = alike(16, 1);
        Check.due("finish() of 1 coin for 16", z.finish(), 1);
        for (int i = 0; i < 16; i++) {
            Check.due("paid " + i, z.money(i, 1), i == 0 ? 1 : 0);
        }
    }

    private static void finishGreatestRests() {
        Check.sentence("Term 3", "coin by coin .. to those of the greatest rests");
        ClaimsFund x = alike(5, 13);
        int[] points = {2, 3, 0, 5, 0};
        for (int i = 0; i < 5; i++) {
            x.appeal(i, points[i]);
        }
        x.out(4, true);
        Check.due("finish()", x.finish(), 13);
        long[] want = {3, 4, 0, 6, 0};
        for (int i = 0; i < 5; i++) {
            Check.due("paid " + i + ", rests 6, 9, 0, 5 of 10", x.money(i, 1), want[i]);
        }
        ClaimsFund z = alike(16, 17);
        z.appeal(15, 11);
        Check.due("finish()", z.finish(), 17);
        Check.due("rest 9 of 161, the first of 15", z.money(0, 1), 1);
        Check.due("rest 26 of 161, the last claim", z.money(15, 1), 2);
        ClaimsFund y = alike(3, 2);
        y.appeal(0, 1);
        y.appeal(1, 4);
        y.appeal(2, 3);
        Check.due("finish()", y.finish(), 2);
        Check.due("rest 2 of 8", y.money(0, 1), 0);
        Check.due("rest 0 of 8", y.money(1, 1), 1);
        Check.due("rest 6 of 8", y.money(2, 1), 1);
    }

    private static void finishOfSeveralTheLeast() {
        Check.sentence("Term 3", "of several the least");
        for (int left = 1; left < 5; left++) {
            ClaimsFund x = alike(5, 500 + left);
            Check.due("finish()", x.finish(), 500 + left);
            for (int i = 0; i < 5; i++) {
                Check.due("paid " + i + " of " + left + " left over", x.money(i, 1), i < left ? 101 : 100);
            }
        }
        ClaimsFund y = alike(4, 13);
        y.out(0, true);
        Check.due("finish()", y.finish(), 13);
        Check.due("paid 1, the least that is judged", y.money(1, 1), 5);
        Check.due("paid 2", y.money(2, 1), 4);
    }

    private static void finishCoinByCoin() {
        Check.sentence("Term 3", "coin by coin, each a payment of its own");
        ClaimsFund x = alike(3, 14);
        x.fee(0, 40);
        x.heir(1, 1);
        x.heir(1, 9);
        x.lien(2, 0, 5);
        Check.due("finish()", x.finish(), 14);
        Check.due("paid 0", x.money(0, 1), 5);
        Check.due("lawyer of 4 and of 1", x.money(0, 2), 1);
        Check.due("person of 4 and of 1", x.money(0, 5), 4);
        Check.due("heir 0 of 4 and of 1", x.money(1, 20), 2);
        Check.due("heir 1 of 4 and of 1", x.money(1, 21), 3);
        Check.due("lien of 2", x.money(2, 10), 4);
        ClaimsFund y = alike(2, 9);
        y.lien(0, 0, 5);
        y.wave(50);
        y.heir(0, 1);
        Check.due("finish()", y.finish(), 5);
        Check.due("lien of 2, 2 and 1", y.money(0, 10), 5);
        Check.due("heir of nothing", y.money(0, 20), 0);
        Check.due("person 1", y.money(1, 5), 4);
    }

    private static void nothingChangesBehindTheEnd() {
        Check.sentence("Term 3", "Behind THE END nothing changes any more but by images");
        ClaimsFund x = Check.withGrid("when kind=0: points 10;");
        x.claim(0, 0, 0, 0, 0);
        x.claim(1, 0, 0, 0, 0);
        x.claim(2, 1, 0, 0, 0);
        x.judge(0);
        x.out(1, true);
        x.judge(2);
        x.image(0);
        x.finish();
        String before = Check.told(x);
        x.fund(50);
        Check.grid(x, "points 10;");
        x.claim(3, 1, 0, 0, 0);
        for (int claim = 0; claim < 3; claim++) {
            x.paper(claim, 0);
            x.judge(claim);
            x.appeal(claim, 5);
            x.out(claim, true);
            x.out(claim, false);
            x.fee(claim, 5);
            x.lien(claim, 0, 5);
            x.heir(claim, 5);
        }
        x.wave(100);
        x.finish();
        Check.unchanged("all of them", x, before);
        Check.due("again(0)", x.again(0), true);
        Check.due("count(6)", x.count(6), 0);
        Check.due("fund(50)", x.fund(50), true);
        Check.due("out(2, true)", x.out(2, true), true);
        Check.due("finish()", x.finish(), 50);
    }

    private static void moneyEach() {
        Check.sentence("Promise 15", "what 0: WORST .. 20 .. 23: HEIR what - 20");
        ClaimsFund x = alike(2, 2000);
        x.fee(1, 10);
        for (int i = 0; i < 4; i++) {
            x.lien(1, i, 10 + i);
            x.heir(1, i + 1);
        }
        for (int what = 1; what < 6; what++) {
            Check.due("money(1, " + what + ") before a payment", x.money(1, what), 0);
        }
        Check.due("wave(50)", x.wave(50), 1000);
        long[] want = {1000, 500, 50, 46, 404, 0};
        for (int what = 0; what < 6; what++) {
            Check.due("money(1, " + what + ")", x.money(1, what), want[what]);
        }
        long[] heirs = {42, 80, 121, 161};
        for (int i = 0; i < 4; i++) {
            Check.due("lien " + i, x.money(1, 10 + i), 10 + i);
            Check.due("heir " + i, x.money(1, 20 + i), heirs[i]);
        }
        Check.due("the person of another", x.money(0, 5), 500);
    }

    private static void moneyOfNoSuchClaim() {
        Check.sentence("Promise 15", "-1 if there is none such");
        ClaimsFund x = Check.withOneJudged(1000);
        for (int claim : NO_CLAIMS) {
            for (int what : new int[] {0, 1, 2, 3, 4, 5, 10, 20}) {
                Check.due("money(" + claim + ", " + what + ")", x.money(claim, what), -1);
            }
        }
        Check.due("money(0, 1) without claims", new ClaimsFund().money(0, 1), -1);
        Check.due("money(0, 0) without claims", new ClaimsFund().money(0, 0), -1);
    }

    private static void moneyOfAnotherWhat() {
        Check.sentence("Promise 15", "-1 .. for another what");
        ClaimsFund x = Check.withOneJudged(1000);
        for (int i = 0; i < 4; i++) {
            x.lien(0, 0, 1);
            x.heir(0, 1);
        }
        x.wave(100);
        for (int what : new int[] {-1, 6, 7, 8, 9, 14, 15, 18, 19, 24, 25, 30, LEAST, GREATEST}) {
            Check.due("money(0, " + what + ")", x.money(0, what), -1);
        }
        Check.due("money(0, 10)", x.money(0, 10), 1);
        Check.due("money(0, 13)", x.money(0, 13), 1);
        Check.due("money(0, 20)", x.money(0, 20), 249);
        Check.due("money(0, 23)", x.money(0, 23), 249);
    }

    private static void moneyOfNoSuchLienOrHeir() {
        Check.sentence("Promise 15", "-1 if there is none such: a LIEN, an HEIR");
        ClaimsFund x = Check.withOneJudged(1000);
        for (int i = 0; i < 4; i++) {
            for (int other = i; other < 4; other++) {
                Check.due("lien " + other + " of " + i, x.money(0, 10 + other), -1);
                Check.due("heir " + other + " of " + i, x.money(0, 20 + other), -1);
            }
            x.lien(0, i, 5);
            x.heir(0, 1);
            Check.due("lien " + i, x.money(0, 10 + i), 0);
            Check.due("heir " + i, x.money(0, 20 + i), 0);
        }
    }

    private static void feeAtTheEdges() {
        Check.sentence("Promise 16", "FEE of a CLAIM's LAWYER from now on: true (0 .. 40)");
        ClaimsFund x = alike(3, 3000);
        x.out(2, true);
        x.claim(3, 0, 0, 0, 0);
        for (int percent : new int[] {40, 1, 0, 39}) {
            for (int claim = 0; claim < 4; claim++) {
                Check.due("fee(" + claim + ", " + percent + ")", x.fee(claim, percent), true);
                Check.due("tell(" + claim + ", 9)", x.tell(claim, 9), percent);
            }
        }
        Check.due("fee(0, 39) again", x.fee(0, 39), true);
        Check.due("wave(10)", x.wave(10), 200);
        Check.due("the lawyer", x.money(0, 2), 39);
    }

    private static void feeOfAnotherPercent() {
        Check.sentence("Promise 16", "false: .. another FEE");
        ClaimsFund x = Check.withOneJudged(1000);
        x.fee(0, 39);
        String before = Check.told(x);
        for (int percent : new int[] {-1, 41, 100, LEAST, GREATEST}) {
            Check.due("fee(0, " + percent + ")", x.fee(0, percent), false);
        }
        Check.unchanged("fee", x, before);
    }

    private static void feeIsCut() {
        Check.sentence("Term 4", "FEE, so many of a hundred, 0 .. 40, cut, to its LAWYER");
        int[] coins = {1, 2, 3, 4, 5, 99, 100, 101};
        int[] of40 = {0, 0, 1, 1, 2, 39, 40, 40};
        int[] of1 = {0, 0, 0, 0, 0, 0, 1, 1};
        for (int i = 0; i < coins.length; i++) {
            feeOf(coins[i], 40, of40[i]);
            feeOf(coins[i], 1, of1[i]);
            feeOf(coins[i], 0, 0);
        }
    }

    private static void feeOfEachPayment() {
        Check.sentence("Term 4", "What a CLAIM is PAID is parted at once: FEE .. cut");
        ClaimsFund x = Check.withOneJudged(10);
        x.fee(0, 40);
        for (int percent = 20; percent <= 100; percent += 20) {
            x.wave(percent);
            Check.due("the lawyer of payments of 2 coins", x.money(0, 2), 0);
        }
        Check.due("the person", x.money(0, 5), 10);
    }

    private static void heirsOfEachPayment() {
        Check.sentence("Term 4", "What a CLAIM is PAID is parted at once: .. PART by all PARTS, cut, each");
        ClaimsFund x = Check.withOneJudged(100);
        x.heir(0, 1);
        x.heir(0, 9);
        for (int percent = 1; percent <= 10; percent++) {
            x.wave(percent);
            Check.due("heir 0 of payments of 1 coin", x.money(0, 20), percent);
            Check.due("heir 1 of payments of 1 coin", x.money(0, 21), 0);
        }
        x.wave(20);
        Check.due("heir 1 of 10 coins", x.money(0, 21), 9);
    }

    private static void feeOf(int coins, int percent, int want) {
        ClaimsFund x = Check.withOneJudged(coins);
        x.fee(0, percent);
        x.wave(100);
        Check.due("the lawyer of " + coins + " by " + percent, x.money(0, 2), want);
        Check.due("the person of " + coins + " by " + percent, x.money(0, 5), coins - want);
    }

    private static void feeFromNowOn() {
        Check.sentence("Promise 16", "from now on");
        ClaimsFund x = alike(2, 2000);
        x.wave(10);
        Check.due("the lawyer before", x.money(0, 2), 0);
        x.fee(0, 40);
        Check.due("the lawyer when it is told", x.money(0, 2), 0);
        x.wave(20);
        Check.due("the lawyer of 100", x.money(0, 2), 40);
        x.fee(0, 0);
        x.wave(30);
        Check.due("the lawyer with no fee", x.money(0, 2), 40);
        Check.due("the lawyer of another", x.money(1, 2), 0);
        Check.due("the person", x.money(0, 5), 260);
    }

    private static void feeOfNoSuchClaim() {
        Check.sentence("Promise 16", "false: there is none such");
        ClaimsFund x = Check.withOneJudged(1000);
        String before = Check.told(x);
        for (int claim : NO_CLAIMS) {
            Check.due("fee(" + claim + ", 5)", x.fee(claim, 5), false);
        }
        Check.unchanged("fee", x, before);
        Check.due("the fee of the next claim", x.tell(x.claim(1, 0, 0, 0, 0), 9), 0);
        Check.due("fee(0, 5) without claims", new ClaimsFund().fee(0, 5), false);
    }

    private static void feeBehindTheEnd() {
        Check.sentence("Promise 16", "false: .. or THE END was");
        ClaimsFund x = ended();
        String before = Check.told(x);
        Check.due("fee(0, 5)", x.fee(0, 5), false);
        Check.due("fee(0, 0), as it is", x.fee(0, 0), false);
        Check.unchanged("fee", x, before);
    }

    private static void lienAtTheEdges() {
        Check.sentence("Promise 17", "of a RANK, 0 .. 9, and coins, 1 .. 1000000000: its number, from 0 on");
        ClaimsFund x = alike(2, MOST_FUND);
        Check.due("lien(0, 9, 1)", x.lien(0, 9, 1), 0);
        Check.due("lien(0, 0, 1000000000)", x.lien(0, 0, 1000000000L), 1);
        Check.due("lien(0, 9, 1000000000)", x.lien(0, 9, 1000000000L), 2);
        Check.due("lien(1, 0, 1)", x.lien(1, 0, 1), 0);
        x.wave(100);
        Check.due("lien 0 of 1 coin", x.money(0, 10), 1);
        Check.due("lien 1 of 1000000000", x.money(0, 11), 1000000000L);
        Check.due("lien 2 of 1000000000", x.money(0, 12), 1000000000L);
        Check.due("lien 0 of another", x.money(1, 10), 1);
    }

    private static void lienAndHeirOfAnyClaim() {
        Check.sentence("Promise 17, 18", "A LIEN on a CLAIM .. An HEIR of a CLAIM (open, judged, paid or out)");
        ClaimsFund x = alike(2, 1000);
        x.claim(5, 0, 0, 0, 0);
        x.out(1, true);
        x.wave(1);
        for (int claim = 0; claim < 3; claim++) {
            Check.due("lien(" + claim + ", 0, 1)", x.lien(claim, 0, 1), 0);
            Check.due("heir(" + claim + ", 1)", x.heir(claim, 1), 0);
            Check.due("lien(" + claim + ", 0, 1) again", x.lien(claim, 0, 1), 1);
            Check.due("heir(" + claim + ", 1) again", x.heir(claim, 1), 1);
            Check.due("tell(" + claim + ", 10)", x.tell(claim, 10), 2);
            Check.due("tell(" + claim + ", 11)", x.tell(claim, 11), 2);
        }
    }

    private static void lienOfOtherNumbers() {
        Check.sentence("Promise 17", "NONE: .. other numbers");
        ClaimsFund x = Check.withOneJudged(1000);
        String before = Check.told(x);
        for (int rank : new int[] {-1, 10, 11, LEAST, GREATEST}) {
            Check.due("lien(0, " + rank + ", 5)", x.lien(0, rank, 5), -1);
        }
        for (long coins : new long[] {0, -1, 1000000001L, 4294967297L, Long.MIN_VALUE, Long.MAX_VALUE}) {
            Check.due("lien(0, 5, " + coins + ")", x.lien(0, 5, coins), -1);
        }
        Check.unchanged("lien", x, before);
    }

    private static void fifthLien() {
        Check.sentence("Promise 17", "NONE: there are 4");
        ClaimsFund x = alike(2, 1000);
        for (int i = 0; i < 4; i++) {
            Check.due("lien " + i, x.lien(0, 9 - i, 5), i);
            Check.due("tell(0, 10)", x.tell(0, 10), i + 1);
        }
        String before = Check.told(x);
        Check.due("a fifth lien", x.lien(0, 0, 5), -1);
        Check.unchanged("lien", x, before);
        Check.due("wave(100)", x.wave(100), 1000);
        Check.due("all liens", x.money(0, 3), 20);
        Check.due("a fifth lien when the others have all", x.lien(0, 0, 5), -1);
        Check.due("a lien on another", x.lien(1, 0, 5), 0);
    }

    private static void lienOnNoSuchClaim() {
        Check.sentence("Promise 17", "NONE: .. there is none such");
        ClaimsFund x = Check.withOneJudged(1000);
        String before = Check.told(x);
        for (int claim : NO_CLAIMS) {
            Check.due("lien(" + claim + ", 5, 5)", x.lien(claim, 5, 5), -1);
        }
        Check.unchanged("lien", x, before);
        Check.due("the liens of the next claim", x.tell(x.claim(1, 0, 0, 0, 0), 10), 0);
        Check.due("lien(0, 5, 5) without claims", new ClaimsFund().lien(0, 5, 5), -1);
    }

    private static void lienBehindTheEnd() {
        Check.sentence("Promise 17", "NONE: .. or THE END was");
        ClaimsFund x = ended();
        String before = Check.told(x);
        Check.due("lien(0, 5, 5)", x.lien(0, 5, 5), -1);
        Check.unchanged("lien", x, before);
    }

    private static void liensByRank() {
        Check.sentence("Term 4", "by RANK, the least first, of several the one told first");
        ClaimsFund x = Check.withOneJudged(100);
        x.lien(0, 9, 10);
        x.lien(0, 4, 10);
        x.lien(0, 0, 10);
        x.lien(0, 4, 10);
        int[] percents = {5, 10, 15, 20, 25, 30, 35, 40, 41, 100};
        int[][] want = {{0, 0, 5, 0}, {0, 0, 10, 0}, {0, 5, 10, 0}, {0, 10, 10, 0}, {0, 10, 10, 5}, {0, 10, 10, 10},
            {5, 10, 10, 10}, {10, 10, 10, 10}, {10, 10, 10, 10}, {10, 10, 10, 10}};
        for (int i = 0; i < percents.length; i++) {
            x.wave(percents[i]);
            for (int lien = 0; lien < 4; lien++) {
                Check.due("lien " + lien + " at " + percents[i], x.money(0, 10 + lien), want[i][lien]);
            }
        }
        Check.due("the person", x.money(0, 5), 60);
    }

    private static void liensUpToWhatTheyAre() {
        Check.sentence("Term 4", "each up to what it is yet");
        ClaimsFund x = Check.withOneJudged(100);
        x.lien(0, 1, 10);
        x.lien(0, 2, 1);
        long[][] want = {{9, 0, 0}, {10, 0, 0}, {10, 1, 0}, {10, 1, 1}, {10, 1, 89}};
        int[] percents = {9, 10, 11, 12, 100};
        for (int i = 0; i < percents.length; i++) {
            x.wave(percents[i]);
            Check.due("lien 0 at " + percents[i], x.money(0, 10), want[i][0]);
            Check.due("lien 1 at " + percents[i], x.money(0, 11), want[i][1]);
            Check.due("the person at " + percents[i], x.money(0, 5), want[i][2]);
        }
    }

    private static void liensOfTheRestOfTheFee() {
        Check.sentence("Term 4", "of the rest to its LIENS");
        ClaimsFund x = Check.withOneJudged(100);
        x.fee(0, 40);
        x.lien(0, 0, 60);
        x.heir(0, 1);
        x.wave(100);
        Check.due("the lawyer", x.money(0, 2), 40);
        Check.due("the lien", x.money(0, 10), 60);
        Check.due("the heir", x.money(0, 20), 0);
        ClaimsFund y = Check.withOneJudged(100);
        y.fee(0, 40);
        y.lien(0, 0, 59);
        y.heir(0, 1);
        y.wave(100);
        Check.due("the lien of 59", y.money(0, 10), 59);
        Check.due("the heir of the rest", y.money(0, 20), 1);
    }

    private static void heirAtTheEdges() {
        Check.sentence("Promise 18", "An HEIR of a CLAIM with a PART (1 .. 9): its number, from 0 on");
        ClaimsFund x = alike(2, 200);
        Check.due("heir(0, 1)", x.heir(0, 1), 0);
        Check.due("heir(0, 9)", x.heir(0, 9), 1);
        Check.due("heir(1, 9)", x.heir(1, 9), 0);
        x.wave(100);
        Check.due("heir of 1", x.money(0, 20), 10);
        Check.due("heir of 9", x.money(0, 21), 90);
        Check.due("the only heir", x.money(1, 20), 100);
    }

    private static void heirWithAnotherPart() {
        Check.sentence("Promise 18", "NONE: .. another PART");
        ClaimsFund x = Check.withOneJudged(1000);
        String before = Check.told(x);
        for (int part : new int[] {0, -1, 10, LEAST, GREATEST}) {
            Check.due("heir(0, " + part + ")", x.heir(0, part), -1);
        }
        Check.unchanged("heir", x, before);
        x.wave(100);
        Check.due("the person", x.money(0, 5), 1000);
    }

    private static void fifthHeir() {
        Check.sentence("Promise 18", "NONE: there are 4");
        ClaimsFund x = alike(2, 2000);
        for (int i = 0; i < 4; i++) {
            Check.due("heir " + i, x.heir(0, 1), i);
            Check.due("tell(0, 11)", x.tell(0, 11), i + 1);
        }
        String before = Check.told(x);
        Check.due("a fifth heir", x.heir(0, 1), -1);
        Check.unchanged("heir", x, before);
        x.wave(100);
        for (int i = 0; i < 4; i++) {
            Check.due("heir " + i, x.money(0, 20 + i), 250);
        }
        Check.due("an heir of another", x.heir(1, 1), 0);
    }

    private static void heirOfNoSuchClaim() {
        Check.sentence("Promise 18", "NONE: .. there is none such");
        ClaimsFund x = Check.withOneJudged(1000);
        String before = Check.told(x);
        for (int claim : NO_CLAIMS) {
            Check.due("heir(" + claim + ", 5)", x.heir(claim, 5), -1);
        }
        Check.unchanged("heir", x, before);
        Check.due("the heirs of the next claim", x.tell(x.claim(1, 0, 0, 0, 0), 11), 0);
        Check.due("heir(0, 5) without claims", new ClaimsFund().heir(0, 5), -1);
    }

    private static void heirBehindTheEnd() {
        Check.sentence("Promise 18", "NONE: .. or THE END was");
        ClaimsFund x = ended();
        String before = Check.told(x);
        Check.due("heir(0, 5)", x.heir(0, 5), -1);
        Check.unchanged("heir", x, before);
    }

    private static void heirsByParts() {
        Check.sentence("Term 4", "PART by all PARTS, cut, each");
        ClaimsFund x = Check.withOneJudged(109);
        int[] parts = {2, 9, 1, 8};
        for (int part : parts) {
            x.heir(0, part);
        }
        x.wave(100);
        long[] want = {10 + 2, 49, 5, 43};
        for (int i = 0; i < 4; i++) {
            Check.due("heir " + i + " of 109", x.money(0, 20 + i), want[i]);
        }
        Check.due("all heirs", x.money(0, 4), 109);
        Check.due("the person", x.money(0, 5), 0);
    }

    private static void heirsLeftOver() {
        Check.sentence("Term 4", "what is left over by that to the first one");
        for (int coins = 1; coins <= 9; coins++) {
            ClaimsFund x = Check.withOneJudged(coins);
            for (int i = 0; i < 3; i++) {
                x.heir(0, 3);
            }
            x.wave(100);
            Check.due("heir 0 of " + coins, x.money(0, 20), coins / 3 + coins % 3);
            Check.due("heir 1 of " + coins, x.money(0, 21), coins / 3);
            Check.due("heir 2 of " + coins, x.money(0, 22), coins / 3);
        }
    }

    private static void withoutHeirs() {
        Check.sentence("Term 4", "(Without HEIRS to the PERSON itself.)");
        ClaimsFund x = Check.withOneJudged(1000);
        x.wave(10);
        Check.due("the person", x.money(0, 5), 100);
        Check.due("all heirs", x.money(0, 4), 0);
        x.heir(0, 1);
        x.wave(20);
        Check.due("the person when there is an heir", x.money(0, 5), 100);
        Check.due("all heirs", x.money(0, 4), 100);
    }

    private static void toldLater() {
        Check.sentence("Term 4", "Who was told later than a payment has nothing of that");
        ClaimsFund x = Check.withOneJudged(1000);
        x.wave(10);
        x.fee(0, 40);
        x.lien(0, 0, 1000);
        x.heir(0, 1);
        Check.due("the lawyer", x.money(0, 2), 0);
        Check.due("the lien", x.money(0, 10), 0);
        Check.due("the heir", x.money(0, 20), 0);
        Check.due("the person", x.money(0, 5), 100);
        Check.due("wave(10) again", x.wave(10), 0);
        Check.due("the lien behind a wave of nothing", x.money(0, 10), 0);
        x.wave(11);
        Check.due("the lawyer of 10", x.money(0, 2), 4);
        Check.due("the lien of 10", x.money(0, 10), 6);
    }

    private static void greatestPayment() {
        Check.sentence("Term 4", "What a CLAIM is PAID is parted at once (no wrap-around)");
        ClaimsFund x = Check.withOneJudged(MOST_FUND);
        x.appeal(0, 1000000);
        x.fee(0, 40);
        for (int i = 0; i < 4; i++) {
            x.lien(0, i, 1000000000L);
            x.heir(0, 9);
        }
        Check.due("wave(100)", x.wave(100), MOST_FUND);
        Check.due("the lawyer", x.money(0, 2), 400000000000L);
        Check.due("all liens", x.money(0, 3), 4000000000L);
        Check.due("all heirs", x.money(0, 4), 596000000000L);
        Check.due("heir 3", x.money(0, 23), 149000000000L);
        Check.due("sum(1)", x.sum(1), MOST_FUND);
    }

    private static void sums() {
        Check.sentence("Promise 21", "What 0: FUND, 1: PAID in all, 2: ALL, 3: LEAST of all CLAIMS together");
        ClaimsFund x = Check.withGrid("points 9999; times 9999; more 200; when not paper 0: times 0;");
        x.fund(MOST_FUND);
        for (int i = 0; i < 16; i++) {
            x.claim(i, 0, 0, 0, 0);
        }
        Check.due("sum(0)", x.sum(0), MOST_FUND);
        Check.due("sum(2) of 16 of the most points", x.sum(2), 16000000);
        Check.due("sum(3) of 16 of no points", x.sum(3), 0);
        for (int i = 0; i < 16; i++) {
            x.paper(i, 0);
            x.judge(i);
        }
        Check.due("sum(3) of 16 of the most points", x.sum(3), 16000000);
        x.wave(100);
        Check.due("sum(1)", x.sum(1), MOST_FUND);
    }

    private static void sumOfAnotherWhat() {
        Check.sentence("Promise 21", "-1 for another what");
        ClaimsFund x = Check.withOneJudged(1000);
        for (int what : new int[] {-1, 4, 5, 10, LEAST, GREATEST}) {
            Check.due("sum(" + what + ")", x.sum(what), -1);
        }
    }

    private static void counts() {
        Check.sentence("Promise 22", "0 CLAIMS, 1 OPEN, 2 JUDGED, 3 OUT, 4 LINES, 5 WAVES, 6 1 if THE END was, else 0");
        ClaimsFund x = Check.withGrid("points 1; more 1; more 1; more 1; more 1;");
        for (int i = 0; i < 9; i++) {
            x.claim(i, 0, 0, 0, 0);
        }
        x.judge(0);
        x.judge(1);
        for (int i = 2; i < 5; i++) {
            x.out(i, true);
        }
        x.wave(1);
        int[] want = {9, 4, 2, 3, 5, 1, 0};
        for (int what = 0; what < 7; what++) {
            Check.due("count(" + what + ")", x.count(what), want[what]);
        }
        for (int i = 5; i < 9; i++) {
            x.judge(i);
        }
        x.finish();
        int[] later = {9, 0, 6, 3, 5, 1, 1};
        for (int what = 0; what < 7; what++) {
            Check.due("count(" + what + ") behind the end", x.count(what), later[what]);
        }
    }

    private static void countOfAnotherWhat() {
        Check.sentence("Promise 22", "NONE for another what");
        ClaimsFund x = Check.withOneJudged(1000);
        for (int what : new int[] {-1, 7, 8, 10, LEAST, GREATEST}) {
            Check.due("count(" + what + ")", x.count(what), -1);
        }
    }
}
