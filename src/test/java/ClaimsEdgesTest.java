/** One test for each sentence about claims that names a boundary: terms 1 to 3, promises 7 to 11, 13 and 14. */
public final class ClaimsEdgesTest {
    private static final int NOT = -10000000;
    private static final int[] NO_CLAIMS = {-1, 2, 3, 15, 16, 17, Integer.MIN_VALUE, Integer.MAX_VALUE};
    private static final int[] MOST = {99, 3, 60, 999, 63};

    private ClaimsEdgesTest() {
    }

    public static void main(String[] args) {
        claimsFromZeroOn();
        seventeenthClaim();
        claimOfOtherNumbers();
        claimThatWouldNotHold();
        claimBehindTheEnd();
        paperThatComes();
        paperOfNoSuchClaim();
        noSuchPaper();
        paperOfOneThatIsNotOpen();
        paperThatItHas();
        paperBehindTheEnd();
        papersThatComeDoNotChangeIt();
        holdsWithAsMuchAsTheWorst();
        holdsForTheLast();
        judgedByItsPapers();
        judgeNoSuchClaim();
        judgeATwin();
        judgeBehindTheEnd();
        appealAtTheEdges();
        appealOfNoSuchClaim();
        appealWithAnotherNumber();
        appealThatWouldNotHold();
        appealBehindTheEnd();
        outOfOneNotPaid();
        outOfOnePaid();
        outNoSuchClaim();
        outAlready();
        backFromOut();
        backOfOneNotOut();
        backThatWouldNotHold();
        outBehindTheEnd();
        lacksMoreOrLess();
        lacksOfNoSuchClaim();
        lacksNoSuchPaper();
        lacksWhatItHas();
        tellEach();
        tellState();
        leastAndMost();
        leastAndMostAtTheEdges();
        leastAndMostOfJudgedAndOut();
        twins();
        noTwinsOutside();
        tellNoSuchClaim();
        tellAnotherWhat();
        Check.end();
    }

    /** Claims 0 and 1, open, with paper 0 alone; each paper more is a point more. */
    private static ClaimsFund twoOpen() {
        ClaimsFund x = Check.withGrid("more 1; when paper 1: more 1; when paper 2: more 1; when paper 5: more 1;");
        x.claim(4, 1, 2, 3, 1);
        x.claim(5, 1, 2, 3, 1);
        return x;
    }

    /** Claim 0, of 10 points, was paid 500 of 1000: it holds as long as all have 20 points or less. */
    private static ClaimsFund paidHalf() {
        ClaimsFund x = Check.withGrid("when kind=0: points 10; when kind=1: points 11; when papers=6: more 1;");
        x.claim(4, 0, 0, 0, 63);
        x.judge(0);
        x.appeal(0, 10);
        x.wave(50);
        return x;
    }

    /** Claim 0 has all; claim 1 is out; claim 2 is judged, without points, and was never paid. */
    private static ClaimsFund ended() {
        ClaimsFund x = Check.withGrid("when kind=0: points 10;");
        x.claim(4, 0, 0, 0, 1);
        x.claim(5, 0, 0, 0, 1);
        x.claim(6, 1, 0, 0, 1);
        x.judge(0);
        x.out(1, true);
        x.judge(2);
        Check.due("finish()", x.finish(), 1000);
        return x;
    }

    private static void claimsFromZeroOn() {
        Check.sentence("Promise 7", "A CLAIM comes, OPEN: its number");
        ClaimsFund x = new ClaimsFund();
        for (int i = 0; i < 16; i++) {
            Check.due("a claim that is refused", x.claim(100, 0, 0, 0, 0), -1);
            Check.due("claim " + i, x.claim(i, i % 4, i, i, i), i);
            Check.due("its state", x.tell(i, 5), 0);
            Check.due("its person", x.tell(i, 0), i);
            Check.due("its papers", x.tell(i, 4), i);
        }
        Check.due("count(0)", x.count(0), 16);
        Check.due("count(1)", x.count(1), 16);
    }

    private static void seventeenthClaim() {
        Check.sentence("Promise 7", "NONE: there are 16");
        ClaimsFund x = new ClaimsFund();
        for (int i = 0; i < 15; i++) {
            x.claim(i, 0, 0, 0, 0);
        }
        Check.due("a 16th claim", x.claim(15, 0, 0, 0, 0), 15);
        Check.due("a 17th claim", x.claim(16, 0, 0, 0, 0), -1);
        Check.due("count(0)", x.count(0), 16);
        Check.due("tell(16, 0)", x.tell(16, 0), -1);
        x.out(3, true);
        x.judge(4);
        Check.due("a 17th claim with one that is out", x.claim(16, 0, 0, 0, 0), -1);
        Check.due("person 15", x.tell(15, 0), 15);
    }

    private static void claimOfOtherNumbers() {
        Check.sentence("Promise 7", "NONE: .. other numbers");
        ClaimsFund x = new ClaimsFund();
        for (int i = 0; i < 5; i++) {
            for (int wrong : new int[] {-1, MOST[i] + 1, Integer.MIN_VALUE, Integer.MAX_VALUE}) {
                int[] five = {1, 1, 1, 1, 1};
                five[i] = wrong;
                Check.due("claim with " + wrong + " as number " + i,
                    x.claim(five[0], five[1], five[2], five[3], five[4]), -1);
            }
        }
        Check.due("count(0)", x.count(0), 0);
        Check.due("the least numbers", x.claim(0, 0, 0, 0, 0), 0);
        Check.due("the greatest numbers", x.claim(99, 3, 60, 999, 63), 1);
        for (int i = 0; i < 5; i++) {
            Check.due("tell(0, " + i + ")", x.tell(0, i), 0);
            Check.due("tell(1, " + i + ")", x.tell(1, i), MOST[i]);
        }
    }

    private static void claimThatWouldNotHold() {
        Check.sentence("Promise 7", "NONE: .. it would not HOLD");
        ClaimsFund x = paidHalf();
        String before = Check.told(x);
        Check.due("11 points, 1000 * 10 / 21", x.claim(5, 1, 0, 0, 0), -1);
        Check.unchanged("claim", x, before);
        Check.due("10 points, 11 with all papers", x.claim(5, 0, 0, 0, 0), -1);
        Check.unchanged("claim", x, before);
        Check.grid(x, "when kind=0: points 10;");
        Check.due("10 points, 1000 * 10 / 20", x.claim(5, 0, 0, 0, 0), 1);
        Check.due("no point, 1000 * 10 / 20", x.claim(6, 1, 0, 0, 0), 2);
        before = Check.told(x);
        Check.due("10 points again", x.claim(5, 0, 0, 0, 0), -1);
        Check.unchanged("claim", x, before);
        Check.due("person of the next, as new", x.claim(7, 2, 3, 4, 5), 3);
        Check.due("tell(3, 2)", x.tell(3, 2), 3);
        Check.due("tell(3, 5)", x.tell(3, 5), 0);
    }

    private static void claimBehindTheEnd() {
        Check.sentence("Promise 7", "NONE: .. or THE END was");
        ClaimsFund x = ended();
        String before = Check.told(x);
        Check.due("claim", x.claim(7, 0, 0, 0, 0), -1);
        Check.due("claim without points", x.claim(7, 1, 0, 0, 0), -1);
        Check.unchanged("claim", x, before);
    }

    private static void paperThatComes() {
        Check.sentence("Promise 8", "A PAPER comes to an OPEN CLAIM: true");
        ClaimsFund x = new ClaimsFund();
        x.claim(4, 0, 0, 0, 0);
        x.claim(5, 0, 0, 0, 0);
        int has = 0;
        for (int paper : new int[] {5, 0, 3, 1, 4, 2}) {
            Check.due("paper(1, " + paper + ")", x.paper(1, paper), true);
            has += 1 << paper;
            Check.due("tell(1, 4)", x.tell(1, 4), has);
        }
        Check.due("tell(0, 4)", x.tell(0, 4), 0);
    }

    private static void paperOfNoSuchClaim() {
        Check.sentence("Promise 8", "false: there is none such (of either): the CLAIM");
        ClaimsFund x = twoOpen();
        String before = Check.told(x);
        for (int claim : NO_CLAIMS) {
            Check.due("paper(" + claim + ", 3)", x.paper(claim, 3), false);
        }
        Check.unchanged("paper", x, before);
        Check.due("paper(0, 0) without claims", new ClaimsFund().paper(0, 0), false);
    }

    private static void noSuchPaper() {
        Check.sentence("Promise 8", "false: there is none such (of either): the PAPER");
        ClaimsFund x = twoOpen();
        String before = Check.told(x);
        for (int paper : new int[] {-1, 6, 7, 31, 32, 33, 37, 64, -31, Integer.MIN_VALUE, Integer.MAX_VALUE}) {
            Check.due("paper(1, " + paper + ")", x.paper(1, paper), false);
        }
        Check.unchanged("paper", x, before);
    }

    private static void paperOfOneThatIsNotOpen() {
        Check.sentence("Promise 8", "false: there is none such .. (an OPEN CLAIM)");
        ClaimsFund x = twoOpen();
        x.judge(0);
        x.out(1, true);
        String before = Check.told(x);
        Check.due("paper of a judged one", x.paper(0, 1), false);
        Check.due("paper of one that is out", x.paper(1, 1), false);
        Check.unchanged("paper", x, before);
    }

    private static void paperThatItHas() {
        Check.sentence("Promise 8", "false: .. it has it");
        ClaimsFund x = twoOpen();
        Check.due("paper(0, 5)", x.paper(0, 5), true);
        String before = Check.told(x);
        Check.due("paper(0, 0), with which it came", x.paper(0, 0), false);
        Check.due("paper(0, 5), which came", x.paper(0, 5), false);
        Check.unchanged("paper", x, before);
        Check.due("paper(1, 5), of another", x.paper(1, 5), true);
    }

    private static void paperBehindTheEnd() {
        Check.sentence("Promise 8", "false: .. or THE END was");
        ClaimsFund x = ended();
        String before = Check.told(x);
        for (int claim = 0; claim < 3; claim++) {
            Check.due("paper(" + claim + ", 3)", x.paper(claim, 3), false);
        }
        Check.unchanged("paper", x, before);
    }

    private static void papersThatComeDoNotChangeIt() {
        Check.sentence("Term 3", "(PAPERS that come do not change it: they are among those that may.)");
        ClaimsFund x = Check.withGrid("when papers<6: points 5; when papers=6: points 10;");
        x.claim(4, 0, 0, 0, 63);
        x.claim(5, 0, 0, 0, 0);
        x.judge(0);
        Check.due("wave(100)", x.wave(100), 500);
        for (int paper = 0; paper < 6; paper++) {
            Check.due("paper(1, " + paper + ")", x.paper(1, paper), true);
            Check.due("sum(2)", x.sum(2), 20);
        }
        Check.due("least with all", x.tell(1, 6), 10);
        Check.due("judge(1)", x.judge(1), 10);
    }

    private static void holdsWithAsMuchAsTheWorst() {
        Check.sentence("Term 3", "It HOLDS if no CLAIM was PAID more than its WORST (as much is not more)");
        ClaimsFund x = Check.withGrid("points 10;");
        x.fund(10);
        for (int i = 0; i < 3; i++) {
            x.claim(i, 0, 0, 0, 0);
            x.judge(i);
        }
        x.out(2, true);
        x.appeal(1, 20);
        Check.due("wave(100), 10 * 10 / 30 and 10 * 20 / 30", x.wave(100), 9);
        Check.due("appeal(1, 23), 10 * 10 / 33", x.appeal(1, 23), true);
        Check.due("appeal(1, 24), 10 * 10 / 34", x.appeal(1, 24), false);
        Check.due("appeal(1, 20)", x.appeal(1, 20), true);
        Check.due("appeal(1, 15), 10 * 15 / 25", x.appeal(1, 15), true);
        Check.due("appeal(1, 14), 10 * 14 / 24", x.appeal(1, 14), false);
        Check.due("out(2, false), 10 * 15 / 35", x.out(2, false), false);
        Check.due("paid 1", x.money(1, 1), 6);
        Check.due("its worst", x.money(1, 0), 6);
    }

    private static void holdsForTheLast() {
        Check.sentence("Term 3", "It HOLDS if no CLAIM was PAID more than its WORST (not the last one, either)");
        ClaimsFund x = Check.withGrid("points 10;");
        for (int i = 0; i < 16; i++) {
            x.claim(i, 0, 0, 0, 0);
        }
        x.judge(0);
        x.out(1, true);
        x.judge(15);
        x.appeal(0, 0);
        Check.due("wave(100), 1000 * 10 / 140", x.wave(100), 71);
        Check.due("grid() of one point more each", Check.grid(x, "points 11;"), -2);
        Check.due("appeal(0, 1), 1000 * 10 / 141", x.appeal(0, 1), false);
        Check.due("out(1, false), 1000 * 10 / 150", x.out(1, false), false);
        x.out(14, true);
        Check.due("appeal(0, 10), 1000 * 10 / 140", x.appeal(0, 10), true);
        Check.due("out(1, false), 1000 * 10 / 150", x.out(1, false), false);
        x.appeal(0, 0);
        Check.due("out(1, false), 1000 * 10 / 140", x.out(1, false), true);
    }

    private static void judgedByItsPapers() {
        Check.sentence("Promise 9", "An OPEN CLAIM is JUDGED, by THE GRID and its PAPERS: its POINTS");
        ClaimsFund x = twoOpen();
        x.paper(1, 5);
        Check.due("judge(0)", x.judge(0), 1);
        Check.due("judge(1)", x.judge(1), 2);
        Check.due("tell(1, 5)", x.tell(1, 5), 1);
        ClaimsFund y = new ClaimsFund();
        y.claim(0, 0, 0, 0, 0);
        Check.due("judge(0) without a grid", y.judge(0), 0);
        ClaimsFund z = Check.withGrid("points 9999; times 9999; times 9999;");
        z.claim(0, 0, 0, 0, 0);
        Check.due("judge(0) of the greatest points", z.judge(0), 1000000);
    }

    private static void judgeNoSuchClaim() {
        Check.sentence("Promise 9", "NONE: there is none such");
        ClaimsFund x = twoOpen();
        for (int claim : NO_CLAIMS) {
            Check.due("judge(" + claim + ")", x.judge(claim), -1);
        }
        Check.due("count(2)", x.count(2), 0);
        x.judge(0);
        x.appeal(0, 77);
        x.out(1, true);
        String before = Check.told(x);
        Check.due("judge of a judged one", x.judge(0), -1);
        Check.due("judge of one that is out", x.judge(1), -1);
        Check.unchanged("judge", x, before);
        Check.due("judge(0) without claims", new ClaimsFund().judge(0), -1);
    }

    private static void judgeATwin() {
        Check.sentence("Promise 9", "NONE: .. or it has a TWIN that is JUDGED");
        ClaimsFund x = Check.withGrid("points 10;");
        for (int person : new int[] {0, 99, 0, 98}) {
            x.claim(person, 0, 0, 0, 0);
        }
        Check.due("judge(2) with an open twin", x.judge(2), 10);
        String before = Check.told(x);
        Check.due("judge(0) with a judged twin", x.judge(0), -1);
        Check.unchanged("judge", x, before);
        Check.due("judge(1) of another person", x.judge(1), 10);
        Check.due("judge(3) of another person", x.judge(3), 10);
        x.appeal(2, 0);
        Check.due("judge(0) with a judged twin without points", x.judge(0), -1);
        x.out(2, true);
        Check.due("judge(0) with a twin no more", x.judge(0), 10);
        x.out(2, false);
        Check.due("judge(2) with a judged twin", x.judge(2), -1);
    }

    private static void judgeBehindTheEnd() {
        Check.sentence("Promise 9", "NONE: .. or THE END was");
        ClaimsFund x = ended();
        String before = Check.told(x);
        for (int claim = 0; claim < 3; claim++) {
            Check.due("judge(" + claim + ")", x.judge(claim), -1);
        }
        Check.unchanged("judge", x, before);
    }

    private static void appealAtTheEdges() {
        Check.sentence("Promise 10", "A JUDGED CLAIM has other POINTS, 0 .. 1000000, by an appeal: true");
        ClaimsFund x = twoOpen();
        x.judge(0);
        for (int points : new int[] {1000000, 999999, 1, 0}) {
            Check.due("appeal(0, " + points + ")", x.appeal(0, points), true);
            Check.due("least", x.tell(0, 6), points);
            Check.due("most", x.tell(0, 7), points);
            Check.due("state", x.tell(0, 5), 1);
        }
        Check.grid(x, "points 8;");
        Check.due("least by another grid", x.tell(0, 6), 0);
    }

    private static void appealOfNoSuchClaim() {
        Check.sentence("Promise 10", "false: there is none such");
        ClaimsFund x = twoOpen();
        x.judge(0);
        x.judge(1);
        String before = Check.told(x);
        for (int claim : NO_CLAIMS) {
            Check.due("appeal(" + claim + ", 5)", x.appeal(claim, 5), false);
        }
        Check.unchanged("appeal", x, before);
        ClaimsFund y = twoOpen();
        y.out(1, true);
        before = Check.told(y);
        Check.due("appeal of an open one", y.appeal(0, 5), false);
        Check.due("appeal of one that is out", y.appeal(1, 5), false);
        Check.unchanged("appeal", y, before);
    }

    private static void appealWithAnotherNumber() {
        Check.sentence("Promise 10", "false: .. another number");
        ClaimsFund x = twoOpen();
        x.judge(0);
        appealWithAnotherNumber(x);
        appealWithAnotherNumber(Check.withOneJudged(1000));
    }

    private static void appealWithAnotherNumber(ClaimsFund x) {
        String before = Check.told(x);
        for (int points : new int[] {-1, 1000001, Integer.MIN_VALUE, Integer.MAX_VALUE}) {
            Check.due("appeal(0, " + points + ")", x.appeal(0, points), false);
        }
        Check.unchanged("appeal", x, before);
    }

    private static void appealThatWouldNotHold() {
        Check.sentence("Promise 10", "false: .. it would not HOLD");
        ClaimsFund x = paidHalf();
        Check.due("appeal(0, 1) of the only one", x.appeal(0, 1), true);
        Check.due("appeal(0, 0) of the only one", x.appeal(0, 0), false);
        Check.due("appeal(0, 10)", x.appeal(0, 10), true);
        Check.grid(x, "points 9;");
        x.claim(5, 0, 0, 0, 0);
        x.judge(1);
        Check.due("appeal(0, 9), 1000 * 9 / 18", x.appeal(0, 9), true);
        String before = Check.told(x);
        Check.due("appeal(0, 8), 1000 * 8 / 17", x.appeal(0, 8), false);
        Check.unchanged("appeal", x, before);
        Check.due("appeal(1, 10), 1000 * 9 / 19", x.appeal(1, 10), false);
        Check.unchanged("appeal", x, before);
        Check.due("appeal(0, 10)", x.appeal(0, 10), true);
        Check.due("appeal(1, 10), 1000 * 10 / 20", x.appeal(1, 10), true);
        Check.due("appeal(1, 11), 1000 * 10 / 21", x.appeal(1, 11), false);
    }

    private static void appealBehindTheEnd() {
        Check.sentence("Promise 10", "false: .. or THE END was");
        ClaimsFund x = ended();
        String before = Check.told(x);
        Check.due("appeal(0, 11)", x.appeal(0, 11), false);
        Check.due("appeal(0, 10), as it is", x.appeal(0, 10), false);
        Check.due("appeal(2, 0), as it is", x.appeal(2, 0), false);
        Check.unchanged("appeal", x, before);
    }

    private static void outOfOneNotPaid() {
        Check.sentence("Promise 11", "A CLAIM that was not PAID goes OUT");
        ClaimsFund x = twoOpen();
        x.judge(1);
        x.appeal(1, 0);
        Check.due("a wave that pays nothing to it", x.wave(100), 0);
        Check.due("out of an open one", x.out(0, true), true);
        Check.due("out of a judged one", x.out(1, true), true);
        for (int claim = 0; claim < 2; claim++) {
            Check.due("state", x.tell(claim, 5), 2);
            Check.due("least", x.tell(claim, 6), 0);
            Check.due("most", x.tell(claim, 7), 0);
        }
        Check.due("count(3)", x.count(3), 2);
        Check.due("sum(2)", x.sum(2), 0);
    }

    private static void outOfOnePaid() {
        Check.sentence("Promise 11", "A CLAIM that was not PAID goes OUT (one that was does not)");
        ClaimsFund x = Check.withOneJudged(100);
        Check.due("wave(1)", x.wave(1), 1);
        String before = Check.told(x);
        Check.due("out of one that was paid one coin", x.out(0, true), false);
        Check.unchanged("out", x, before);
        ClaimsFund y = Check.withOneJudged(99);
        Check.due("wave(1)", y.wave(1), 0);
        Check.due("out of one that was paid no coin", y.out(0, true), true);
    }

    private static void outNoSuchClaim() {
        Check.sentence("Promise 11", "false: there is none such");
        ClaimsFund x = twoOpen();
        String before = Check.told(x);
        for (int claim : NO_CLAIMS) {
            Check.due("out(" + claim + ", true)", x.out(claim, true), false);
            Check.due("out(" + claim + ", false)", x.out(claim, false), false);
        }
        Check.unchanged("out", x, before);
        Check.due("out(0, true) without claims", new ClaimsFund().out(0, true), false);
        Check.due("out(0, false) without claims", new ClaimsFund().out(0, false), false);
    }

    private static void outAlready() {
        Check.sentence("Promise 11", "A CLAIM .. goes OUT (one that is OUT does not)");
        ClaimsFund x = twoOpen();
        x.judge(1);
        for (int claim = 0; claim < 2; claim++) {
            x.out(claim, true);
            String before = Check.told(x);
            Check.due("out(" + claim + ", true) again", x.out(claim, true), false);
            Check.unchanged("out", x, before);
        }
    }

    private static void backFromOut() {
        Check.sentence("Promise 11", "(out false) one that is OUT is OPEN again: true");
        ClaimsFund x = twoOpen();
        x.paper(0, 1);
        x.fee(0, 7);
        x.lien(0, 1, 5);
        x.heir(0, 2);
        String before = Check.told(x);
        x.out(0, true);
        Check.due("out(0, false)", x.out(0, false), true);
        Check.unchanged("what went out and came back", x, before);
        x.judge(1);
        x.appeal(1, 9);
        x.out(1, true);
        Check.grid(x, "points 30; when paper 3: more 1;");
        Check.due("most of one that is out", x.tell(1, 7), 0);
        Check.due("out(1, false) of one that was judged", x.out(1, false), true);
        Check.due("state", x.tell(1, 5), 0);
        Check.due("least by the grid of now", x.tell(1, 6), 30);
        Check.due("most by the grid of now", x.tell(1, 7), 31);
    }

    private static void backOfOneNotOut() {
        Check.sentence("Promise 11", "(out false) one that is OUT (one that is not does not come back)");
        ClaimsFund x = twoOpen();
        x.judge(1);
        x.wave(1);
        String before = Check.told(x);
        Check.due("out(0, false) of an open one", x.out(0, false), false);
        Check.due("out(1, false) of a judged one", x.out(1, false), false);
        Check.unchanged("out", x, before);
    }

    private static void backThatWouldNotHold() {
        Check.sentence("Promise 11", "false: .. it would not HOLD");
        ClaimsFund x = Check.withGrid("when kind=0: points 10; when kind=1: points 11; when kind=2: points 5;"
            + "when kind=2 and paper 4: more 6;");
        for (int kind = 0; kind < 4; kind++) {
            x.claim(kind, kind, 0, 0, 0);
        }
        x.claim(9, 0, 0, 0, 0);
        for (int claim = 1; claim < 5; claim++) {
            x.out(claim, true);
        }
        x.judge(0);
        x.wave(50);
        String before = Check.told(x);
        Check.due("out(1, false), 1000 * 10 / 21", x.out(1, false), false);
        Check.due("out(2, false), 1000 * 10 / 21 with its paper", x.out(2, false), false);
        Check.unchanged("out", x, before);
        Check.due("out(4, false), 1000 * 10 / 20", x.out(4, false), true);
        Check.due("out(3, false), no points", x.out(3, false), true);
        Check.due("out(1, false)", x.out(1, false), false);
        x.out(4, true);
        Check.due("out(4, false) again", x.out(4, false), true);
    }

    private static void outBehindTheEnd() {
        Check.sentence("Promise 11", "false: .. or THE END was");
        ClaimsFund x = ended();
        String before = Check.told(x);
        Check.due("out(0, true) of one that was paid", x.out(0, true), false);
        Check.due("out(1, false) of one that is out", x.out(1, false), false);
        Check.due("out(1, true) of one that is out", x.out(1, true), false);
        Check.due("out(2, true) of one that was not paid", x.out(2, true), false);
        Check.unchanged("out", x, before);
    }

    private static void lacksMoreOrLess() {
        Check.sentence("Promise 13", "By how much the POINTS of an OPEN CLAIM would be more (below 0: less)");
        ClaimsFund x = Check.withGrid("points 9999; times 9999; more 200; when not paper 5: times 0;"
            + "when papers=2 and paper 1: more 7; when papers=2 and paper 2: none;");
        x.claim(0, 0, 0, 0, 1);
        x.claim(1, 0, 0, 0, 32);
        Check.due("lacks(0, 5), as much more as can be", x.lacks(0, 5), 1000000);
        Check.due("lacks(0, 1)", x.lacks(0, 1), 7);
        Check.due("lacks(0, 3)", x.lacks(0, 3), 0);
        Check.due("lacks(1, 2), as much less as can be", x.lacks(1, 2), -1000000);
        Check.due("lacks(1, 1) at the greatest points", x.lacks(1, 1), 0);
        String before = Check.told(x);
        x.lacks(0, 5);
        Check.unchanged("lacks changes nothing; it", x, before);
    }

    private static void lacksOfNoSuchClaim() {
        Check.sentence("Promise 13", "-10000000: there is none such (of either): an OPEN CLAIM");
        ClaimsFund x = twoOpen();
        for (int claim : NO_CLAIMS) {
            Check.due("lacks(" + claim + ", 1)", x.lacks(claim, 1), NOT);
        }
        Check.due("lacks(1, 1)", x.lacks(1, 1), 1);
        x.judge(0);
        x.out(1, true);
        Check.due("lacks of a judged one", x.lacks(0, 1), NOT);
        Check.due("lacks of one that is out", x.lacks(1, 1), NOT);
        Check.due("lacks without claims", new ClaimsFund().lacks(0, 0), NOT);
        Check.due("lacks behind the end", ended().lacks(0, 3), NOT);
    }

    private static void lacksNoSuchPaper() {
        Check.sentence("Promise 13", "-10000000: there is none such (of either): a PAPER");
        ClaimsFund x = twoOpen();
        for (int paper : new int[] {-1, 6, 31, 32, 33, 37, 64, -31, Integer.MIN_VALUE, Integer.MAX_VALUE}) {
            Check.due("lacks(0, " + paper + ")", x.lacks(0, paper), NOT);
        }
        Check.due("lacks(0, 5)", x.lacks(0, 5), 1);
    }

    private static void lacksWhatItHas() {
        Check.sentence("Promise 13", "-10000000: .. or it has it");
        ClaimsFund x = twoOpen();
        Check.due("lacks(0, 0), with which it came", x.lacks(0, 0), NOT);
        Check.due("lacks(0, 5)", x.lacks(0, 5), 1);
        x.paper(0, 5);
        Check.due("lacks(0, 5), which came", x.lacks(0, 5), NOT);
        Check.due("lacks(1, 5), of another", x.lacks(1, 5), 1);
    }

    private static void tellEach() {
        Check.sentence("Promise 14", "Of a CLAIM, what 0: PERSON .. 11: HEIRS");
        ClaimsFund x = Check.withGrid("points 10; when paper 3: more 4;");
        x.claim(0, 0, 0, 0, 0);
        x.claim(99, 3, 60, 999, 7);
        x.claim(99, 3, 60, 999, 63);
        int[][] want = {{0, 0, 0, 0, 0, 0, 10, 14, 0, 0, 0, 0}, {99, 3, 60, 999, 7, 0, 10, 14, 1, 40, 4, 3}};
        x.fee(1, 40);
        for (int i = 0; i < 4; i++) {
            x.lien(1, i, 5);
            x.heir(1, i);
        }
        for (int what = 0; what < 12; what++) {
            Check.due("tell(0, " + what + ")", x.tell(0, what), want[0][what]);
            Check.due("tell(1, " + what + ")", x.tell(1, what), want[1][what]);
        }
    }

    private static void tellState() {
        Check.sentence("Promise 14", "5: 0 OPEN, 1 JUDGED, 2 OUT");
        ClaimsFund x = twoOpen();
        Check.due("open", x.tell(0, 5), 0);
        x.judge(0);
        Check.due("judged", x.tell(0, 5), 1);
        x.out(0, true);
        Check.due("out", x.tell(0, 5), 2);
        x.out(0, false);
        Check.due("open again", x.tell(0, 5), 0);
    }

    private static void leastAndMost() {
        Check.sentence("Term 2", "with its PAPERS and any of those that lack (none, too)");
        for (int papers = 0; papers < 64; papers++) {
            String text = "points 5; when papers=" + Integer.bitCount(papers) + ": points 1;";
            ClaimsFund x = Check.withGrid(text);
            x.claim(0, 0, 0, 0, papers);
            Check.due("least of papers " + papers + ", none more, by " + text, x.tell(0, 6), 1);
            Check.due("most of papers " + papers + " by " + text, x.tell(0, 7), papers == 63 ? 1 : 5);
        }
        ClaimsFund y = Check.withGrid("points 5; when papers=6: points 9; when papers=3 and paper 1: points 2;");
        y.claim(0, 0, 0, 0, 0);
        y.claim(0, 0, 0, 0, 2);
        y.claim(0, 0, 0, 0, 53);
        int[] least = {2, 2, 5};
        for (int claim = 0; claim < 3; claim++) {
            Check.due("least of " + claim, y.tell(claim, 6), least[claim]);
            Check.due("most of " + claim + ", with all", y.tell(claim, 7), 9);
        }
    }

    private static void leastAndMostAtTheEdges() {
        Check.sentence("Term 2", "the least and the greatest POINTS that it would have");
        ClaimsFund x = Check.withGrid("points 9999; times 9999; times 9999;");
        x.claim(0, 0, 0, 0, 0);
        Check.due("least when all are the most that can be", x.tell(0, 6), 1000000);
        Check.due("most when all are the most that can be", x.tell(0, 7), 1000000);
        Check.grid(x, "none;");
        Check.due("least when all are none", x.tell(0, 6), 0);
        Check.due("most when all are none", x.tell(0, 7), 0);
        StringBuilder six = new StringBuilder("when papers=1: points 9;");
        for (int paper = 0; paper < 6; paper++) {
            six.append("when paper ").append(paper).append(": points 0;");
        }
        Check.grid(x, six.toString());
        Check.due("most, since there is no other paper than the six", x.tell(0, 7), 0);
    }

    private static void leastAndMostOfJudgedAndOut() {
        Check.sentence("Term 2", "of a JUDGED one its POINTS; of one that is OUT 0. ALL: MOST of all CLAIMS together");
        ClaimsFund x = twoOpen();
        Check.due("least of all", x.sum(3), 2);
        Check.due("all", x.sum(2), 8);
        x.judge(0);
        Check.due("least of a judged one", x.tell(0, 6), 1);
        Check.due("most of a judged one", x.tell(0, 7), 1);
        Check.due("all", x.sum(2), 5);
        x.out(1, true);
        Check.due("least of one that is out", x.tell(1, 6), 0);
        Check.due("most of one that is out", x.tell(1, 7), 0);
        Check.due("all", x.sum(2), 1);
        Check.due("least of all", x.sum(3), 1);
    }

    private static void twins() {
        Check.sentence("Promise 14", "8: how many TWINS it has (others; 0 if it is OUT)");
        ClaimsFund x = new ClaimsFund();
        for (int i = 0; i < 16; i++) {
            x.claim(7, i % 4, i, i, i);
            Check.due("twins of the first", x.tell(0, 8), i);
            Check.due("twins of the last", x.tell(i, 8), i);
        }
        x.judge(3);
        Check.due("twins with a judged one", x.tell(0, 8), 15);
        Check.due("twins of a judged one", x.tell(3, 8), 15);
        x.out(5, true);
        Check.due("twins without one that is out", x.tell(0, 8), 14);
        Check.due("twins of one that is out", x.tell(5, 8), 0);
        x.out(5, false);
        Check.due("twins of one that is back", x.tell(5, 8), 15);
    }

    private static void noTwinsOutside() {
        Check.sentence("Term 1", "TWINS are CLAIMS that are not OUT, of one PERSON");
        ClaimsFund x = new ClaimsFund();
        x.claim(0, 0, 0, 0, 0);
        Check.due("twins of the only claim", x.tell(0, 8), 0);
        x.claim(1, 0, 0, 0, 0);
        Check.due("twins of another person", x.tell(0, 8), 0);
        x.claim(0, 3, 60, 999, 63);
        Check.due("twins, unlike but for the person", x.tell(0, 8), 1);
        x.out(0, true);
        x.out(2, true);
        Check.due("twins, both out", x.tell(0, 8), 0);
        Check.due("twins, both out", x.tell(2, 8), 0);
    }

    private static void tellNoSuchClaim() {
        Check.sentence("Promise 14", "NONE if there is none such");
        ClaimsFund x = twoOpen();
        for (int claim : NO_CLAIMS) {
            for (int what = 0; what < 12; what++) {
                Check.due("tell(" + claim + ", " + what + ")", x.tell(claim, what), -1);
            }
        }
        Check.due("tell(0, 0) without claims", new ClaimsFund().tell(0, 0), -1);
        Check.due("tell(0, 5) without claims", new ClaimsFund().tell(0, 5), -1);
    }

    private static void tellAnotherWhat() {
        Check.sentence("Promise 14", "NONE .. for another what");
        ClaimsFund x = twoOpen();
        for (int what : new int[] {-1, 12, 13, 20, Integer.MIN_VALUE, Integer.MAX_VALUE}) {
            Check.due("tell(0, " + what + ")", x.tell(0, what), -1);
        }
    }
}
