/** Claims and what becomes of them: promises 7 to 11, 13, 14, and the numbers of 22. */
public final class ClaimsTest {
    private static final int NOT = -10000000;

    private ClaimsTest() {
    }

    public static void main(String[] args) {
        claims();
        papers();
        lacks();
        leastAndMost();
        judge();
        twins();
        appeal();
        out();
        holdsAgainstClaims();
        holdsAgainstGrids();
        holdsAgainstAppeals();
        holdsAgainstComingBack();
        tell();
        Check.end();
    }

    private static void claims() {
        ClaimsFund x = new ClaimsFund();
        Check.due("person -1", x.claim(-1, 0, 0, 0, 0), -1);
        Check.due("person 100", x.claim(100, 0, 0, 0, 0), -1);
        Check.due("kind 4", x.claim(0, 4, 0, 0, 0), -1);
        Check.due("kind -1", x.claim(0, -1, 0, 0, 0), -1);
        Check.due("years 61", x.claim(0, 0, 61, 0, 0), -1);
        Check.due("years -1", x.claim(0, 0, -1, 0, 0), -1);
        Check.due("late 1000", x.claim(0, 0, 0, 1000, 0), -1);
        Check.due("late -1", x.claim(0, 0, 0, -1, 0), -1);
        Check.due("papers 64", x.claim(0, 0, 0, 0, 64), -1);
        Check.due("papers -1", x.claim(0, 0, 0, 0, -1), -1);
        Check.due("no claims", x.count(0), 0);
        for (int i = 0; i < 16; i++) {
            Check.due("claim " + i, x.claim(99, 3, 60, 999, 63), i);
        }
        Check.due("a 17th", x.claim(0, 0, 0, 0, 0), -1);
        Check.due("claims", x.count(0), 16);
        Check.due("open", x.count(1), 16);
    }

    private static void papers() {
        ClaimsFund x = Check.withGrid("when paper 2: points 9;");
        x.claim(0, 0, 0, 0, 1);
        Check.due("it has it", x.paper(0, 0), false);
        Check.due("paper 6", x.paper(0, 6), false);
        Check.due("paper -1", x.paper(0, -1), false);
        Check.due("paper 32", x.paper(0, 32), false);
        Check.due("claim 1", x.paper(1, 2), false);
        Check.due("claim -1", x.paper(-1, 2), false);
        Check.due("paper 2", x.paper(0, 2), true);
        Check.due("paper 2 again", x.paper(0, 2), false);
        Check.due("paper 5", x.paper(0, 5), true);
        Check.due("papers", x.tell(0, 4), 37);
        Check.due("least", x.tell(0, 6), 9);
        x.judge(0);
        Check.due("of a judged one", x.paper(0, 3), false);
        x.out(0, true);
        Check.due("of one that is out", x.paper(0, 3), false);
    }

    private static void lacks() {
        ClaimsFund x = Check.withGrid("points 10; when paper 1: more 5; when paper 2: times 50; when paper 4: none;");
        x.claim(0, 0, 0, 0, 1);
        Check.due("it has it", x.lacks(0, 0), NOT);
        Check.due("paper 1", x.lacks(0, 1), 5);
        Check.due("paper 2", x.lacks(0, 2), -5);
        Check.due("paper 3", x.lacks(0, 3), 0);
        Check.due("paper 4", x.lacks(0, 4), -10);
        Check.due("paper 6", x.lacks(0, 6), NOT);
        Check.due("paper -1", x.lacks(0, -1), NOT);
        Check.due("claim 1", x.lacks(1, 1), NOT);
        Check.due("claim -1", x.lacks(-1, 1), NOT);
        x.paper(0, 1);
        Check.due("paper 2 after 1", x.lacks(0, 2), -8);
        x.judge(0);
        Check.due("of a judged one", x.lacks(0, 2), NOT);
        x.out(0, true);
        Check.due("of one that is out", x.lacks(0, 2), NOT);
        x.out(0, false);
        Check.due("of an open one again", x.lacks(0, 2), -8);
    }

    private static void leastAndMost() {
        ClaimsFund x = Check.withGrid("points 10;when paper 1:more 5;when paper 2:times 50;when papers=6:points 99;");
        x.claim(0, 0, 0, 0, 0);
        Check.due("least", x.tell(0, 6), 5);
        Check.due("most", x.tell(0, 7), 99);
        x.claim(1, 0, 0, 0, 6);
        Check.due("least of 1", x.tell(1, 6), 7);
        Check.due("most of 1", x.tell(1, 7), 99);
        Check.due("all", x.sum(2), 198);
        Check.due("least of all", x.sum(3), 12);
        Check.grid(x, "points 3; when paper 0: more 1;");
        Check.due("least by another grid", x.tell(0, 6), 3);
        Check.due("most by another grid", x.tell(0, 7), 4);
        x.judge(1);
        Check.due("least of a judged one", x.tell(1, 6), 3);
        Check.due("most of a judged one", x.tell(1, 7), 3);
        Check.grid(x, "points 8;");
        Check.due("a judged one keeps its points", x.tell(1, 6), 3);
        Check.due("all after that", x.sum(2), 11);
        x.out(1, true);
        Check.due("least of one that is out", x.tell(1, 6), 0);
        Check.due("most of one that is out", x.tell(1, 7), 0);
        Check.due("all without it", x.sum(2), 8);
    }

    private static void judge() {
        ClaimsFund x = Check.withGrid("points 10; when paper 1: more 5;");
        x.claim(0, 0, 0, 0, 2);
        x.claim(1, 0, 0, 0, 0);
        Check.due("judge(2)", x.judge(2), -1);
        Check.due("judge(-1)", x.judge(-1), -1);
        Check.due("judge(0)", x.judge(0), 15);
        Check.due("judge(0) again", x.judge(0), -1);
        Check.due("judge(1)", x.judge(1), 10);
        Check.due("judged", x.count(2), 2);
        x.out(1, true);
        Check.due("judge one that is out", x.judge(1), -1);
    }

    private static void twins() {
        ClaimsFund x = Check.withGrid("points 10;");
        x.claim(7, 0, 0, 0, 0);
        x.claim(8, 0, 0, 0, 0);
        x.claim(7, 1, 0, 0, 0);
        x.claim(7, 2, 0, 0, 0);
        Check.due("twins of 0", x.tell(0, 8), 2);
        Check.due("twins of 1", x.tell(1, 8), 0);
        x.judge(2);
        Check.due("twins are no less by a judgement", x.tell(0, 8), 2);
        Check.due("a twin is judged", x.judge(0), -1);
        Check.due("no twin", x.judge(1), 10);
        x.out(2, true);
        Check.due("twins of one that is out", x.tell(2, 8), 0);
        Check.due("twins of 0 without it", x.tell(0, 8), 1);
        Check.due("the twin is out", x.judge(0), 10);
        x.out(2, false);
        Check.due("a twin is judged again", x.judge(2), -1);
        Check.due("twins with person 0 that no claim has", new ClaimsFund().tell(0, 8), -1);
        ClaimsFund y = new ClaimsFund();
        y.claim(0, 0, 0, 0, 0);
        Check.due("rows without a claim are no twins", y.tell(0, 8), 0);
    }

    private static void appeal() {
        ClaimsFund x = Check.withGrid("points 10;");
        x.claim(7, 0, 0, 0, 0);
        Check.due("of an open one", x.appeal(0, 5), false);
        x.judge(0);
        Check.due("points -1", x.appeal(0, -1), false);
        Check.due("points 1000001", x.appeal(0, 1000001), false);
        Check.due("claim 1", x.appeal(1, 5), false);
        Check.due("claim -1", x.appeal(-1, 5), false);
        Check.due("points 1000000", x.appeal(0, 1000000), true);
        Check.due("least", x.tell(0, 6), 1000000);
        Check.due("most", x.tell(0, 7), 1000000);
        Check.due("points 0", x.appeal(0, 0), true);
        Check.due("all", x.sum(2), 0);
        Check.due("the same points", x.appeal(0, 0), true);
        x.out(0, true);
        Check.due("of one that is out", x.appeal(0, 5), false);
        x.out(0, false);
        Check.due("it is open", x.tell(0, 5), 0);
        Check.due("an appeal is lost by that", x.judge(0), 10);
    }

    private static void out() {
        ClaimsFund x = Check.withGrid("points 10;");
        x.claim(1, 0, 0, 0, 0);
        x.claim(2, 0, 0, 0, 0);
        Check.due("an open one is not out", x.out(0, false), false);
        Check.due("claim 2", x.out(2, true), false);
        Check.due("claim -1", x.out(-1, true), false);
        Check.due("claim 2 back", x.out(2, false), false);
        Check.due("out", x.out(0, true), true);
        Check.due("state", x.tell(0, 5), 2);
        Check.due("outs", x.count(3), 1);
        Check.due("claims", x.count(0), 2);
        Check.due("out already", x.out(0, true), false);
        Check.due("state as it was", x.tell(0, 5), 2);
        Check.due("outs as they were", x.count(3), 1);
        Check.due("back", x.out(0, false), true);
        Check.due("state back", x.tell(0, 5), 0);
        Check.due("back again", x.out(0, false), false);
        Check.due("out once more", x.out(0, true), true);
        Check.due("out already once more", x.out(0, true), false);
        Check.due("back once more", x.out(0, false), true);
        x.judge(0);
        Check.due("a judged one is not out", x.out(0, false), false);
        Check.due("a judged one goes out", x.out(0, true), true);
        Check.due("and does not do so twice", x.out(0, true), false);
        x.out(0, false);
        x.judge(0);
        x.wave(1);
        Check.due("paid", x.money(0, 1), 5);
        Check.due("one that was paid", x.out(0, true), false);
        Check.due("state of it", x.tell(0, 5), 1);
        Check.due("one that was not paid", x.out(1, true), true);
    }

    /** One judged claim of 10 points, paid all that comes to it beside an open one of 10. */
    private static ClaimsFund paidToTheWorst() {
        ClaimsFund x = Check.withGrid("points 10;");
        x.claim(1, 0, 0, 0, 0);
        x.claim(2, 1, 0, 0, 0);
        x.judge(0);
        Check.due("wave(100)", x.wave(100), 500);
        return x;
    }

    private static void holdsAgainstClaims() {
        ClaimsFund x = paidToTheWorst();
        Check.due("another claim", x.claim(3, 0, 0, 0, 0), -1);
        Check.due("claims", x.count(0), 2);
        Check.due("open", x.count(1), 1);
        Check.due("all", x.sum(2), 20);
        Check.due("tell of none", x.tell(2, 0), -1);
        Check.due("a grid that lets one in",
            Check.grid(x, "when kind=1:points 9;when kind=2:points 1;when kind=3:points 2;"), 3);
        Check.due("two points more", x.claim(3, 3, 0, 0, 0), -1);
        Check.due("one point more", x.claim(3, 2, 0, 0, 0), 2);
        Check.due("again one", x.claim(3, 2, 0, 0, 0), -1);
        Check.due("one without points", x.claim(4, 0, 0, 0, 0), 3);
        Check.due("all now", x.sum(2), 20);
        Check.due("open now", x.count(1), 3);
        Check.due("the row that was refused is as new", x.tell(3, 0), 4);
    }

    private static void holdsAgainstGrids() {
        ClaimsFund x = paidToTheWorst();
        Check.due("more points", Check.grid(x, "points 11;"), -2);
        Check.due("fault(0)", x.fault(0), 0);
        Check.due("fault(1)", x.fault(1), -1);
        Check.due("tape is empty", x.end(1), -1);
        Check.due("the grid before", x.points(0, 0, 0, 0), 10);
        Check.due("most before", x.tell(1, 7), 10);
        Check.due("all before", x.sum(2), 20);
        Check.due("a fault goes first", Check.grid(x, "points 11"), -1);
        Check.due("only with all papers", Check.grid(x, "points 9; when papers = 6: points 11;"), -2);
        Check.due("fewer points", Check.grid(x, "points 9;"), 1);
        Check.due("as many points", Check.grid(x, "points 8; when papers = 6: points 10;"), 2);
        Check.due("a paper changes nothing", x.paper(1, 0), true);
        Check.due("judge it", x.judge(1), 8);
    }

    private static void holdsAgainstAppeals() {
        ClaimsFund x = paidToTheWorst();
        Check.due("more to it", x.appeal(0, 11), true);
        Check.due("less to it", x.appeal(0, 9), false);
        Check.due("its points", x.tell(0, 6), 11);
        Check.due("as before", x.appeal(0, 10), true);
        x.judge(1);
        Check.due("more to the other", x.appeal(1, 11), false);
        Check.due("points of the other", x.tell(1, 7), 10);
        Check.due("less to the other", x.appeal(1, 0), true);
    }

    private static void holdsAgainstComingBack() {
        ClaimsFund x = Check.withGrid("points 10;");
        x.claim(1, 0, 0, 0, 0);
        x.claim(2, 0, 0, 0, 0);
        x.judge(0);
        x.judge(1);
        x.out(1, true);
        Check.due("wave(50)", x.wave(50), 500);
        Check.due("back", x.out(1, false), true);
        x.out(1, true);
        Check.due("wave(51)", x.wave(51), 10);
        Check.due("back is refused", x.out(1, false), false);
        Check.due("it is out", x.tell(1, 5), 2);
        Check.due("all", x.sum(2), 10);
    }

    private static void tell() {
        ClaimsFund x = Check.withGrid("points 10;");
        x.claim(42, 3, 31, 777, 45);
        int[] want = {42, 3, 31, 777, 45, 0, 10, 10, 0, 0, 0, 0, -1};
        for (int what = 0; what < want.length; what++) {
            Check.due("tell(0, " + what + ")", x.tell(0, what), want[what]);
            Check.due("tell(1, " + what + ")", x.tell(1, what), -1);
            Check.due("tell(-1, " + what + ")", x.tell(-1, what), -1);
        }
        Check.due("tell(0, -1)", x.tell(0, -1), -1);
        x.fee(0, 40);
        x.lien(0, 1, 5);
        x.heir(0, 3);
        x.heir(0, 4);
        Check.due("fee", x.tell(0, 9), 40);
        Check.due("liens", x.tell(0, 10), 1);
        Check.due("heirs", x.tell(0, 11), 2);
        Check.due("tell(16, 0)", x.tell(16, 0), -1);
    }
}
