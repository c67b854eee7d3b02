/** The coins: promises 1, 2 and 15 to 22. */
public final class MoneyTest {
    private MoneyTest() {
    }

    public static void main(String[] args) {
        newObject();
        fund();
        worst();
        waves();
        fee();
        liens();
        heirs();
        allTogether();
        toldLater();
        finish();
        rests();
        afterTheEnd();
        greatest();
        others();
        Check.end();
    }

    private static void newObject() {
        ClaimsFund x = new ClaimsFund();
        Check.due("NONE", ClaimsFund.NONE, -1);
        long[] sums = {1000, 0, 0, 0, -1};
        for (int what = 0; what < sums.length; what++) {
            Check.due("sum(" + what + ")", x.sum(what), sums[what]);
        }
        Check.due("sum(-1)", x.sum(-1), -1);
        for (int what = 0; what < 7; what++) {
            Check.due("count(" + what + ")", x.count(what), 0);
        }
        Check.due("count(7)", x.count(7), -1);
        Check.due("count(-1)", x.count(-1), -1);
        Check.due("points", x.points(0, 0, 0, 0), 0);
        for (int k = -1; k < 4; k++) {
            Check.due("again(" + k + ")", x.again(k), false);
        }
    }

    private static void fund() {
        ClaimsFund x = Check.withGrid("points 10;");
        Check.due("fund(0)", x.fund(0), false);
        Check.due("fund(-1)", x.fund(-1), false);
        Check.due("fund above the greatest", x.fund(1000000000001L), false);
        Check.due("the fund before", x.sum(0), 1000);
        Check.due("the greatest fund", x.fund(1000000000000L), true);
        Check.due("it", x.sum(0), 1000000000000L);
        Check.due("the least fund", x.fund(1), true);
        x.claim(0, 0, 0, 0, 0);
        x.claim(1, 0, 0, 0, 0);
        x.judge(0);
        Check.due("a wave of no coin", x.wave(100), 0);
        Check.due("nobody was paid", x.fund(50), true);
        Check.due("a wave", x.wave(100), 25);
        Check.due("one was paid", x.fund(50), false);
        ClaimsFund z = oneOf(100);
        Check.due("a wave of one coin", z.wave(1), 1);
        Check.due("one coin was paid", z.fund(50), false);
        Check.due("nor does it go out", z.out(0, true), false);
        ClaimsFund y = new ClaimsFund();
        Check.due("fund(7)", y.fund(7), true);
        Check.due("fund(7) again", y.fund(7), true);
    }

    private static void worst() {
        ClaimsFund x = new ClaimsFund();
        x.claim(0, 0, 0, 0, 0);
        Check.due("worst without points", x.money(0, 0), 0);
        Check.grid(x, "points 1; when paper 0: points 2;");
        x.claim(1, 0, 0, 0, 1);
        Check.due("worst of 0", x.money(0, 0), 250);
        Check.due("worst of 1", x.money(1, 0), 500);
        x.judge(0);
        Check.due("worst of 0 judged", x.money(0, 0), 333);
        Check.due("worst of 1 then", x.money(1, 0), 666);
        x.out(0, true);
        Check.due("worst of one that is out", x.money(0, 0), 0);
        Check.due("worst of 1 alone", x.money(1, 0), 1000);
    }

    private static void waves() {
        ClaimsFund x = Check.withGrid("points 1; when paper 0: points 2;");
        Check.due("wave(0)", x.wave(0), -1);
        Check.due("wave(101)", x.wave(101), -1);
        Check.due("wave(-1)", x.wave(-1), -1);
        Check.due("no waves", x.count(5), 0);
        Check.due("a wave without claims", x.wave(1), 0);
        x.claim(0, 0, 0, 0, 0);
        x.claim(1, 0, 0, 0, 1);
        x.claim(2, 0, 0, 0, 1);
        x.judge(1);
        Check.due("worst", x.money(1, 0), 333);
        Check.due("wave(10)", x.wave(10), 33);
        Check.due("wave(10) again", x.wave(10), 0);
        Check.due("wave(9)", x.wave(9), 0);
        x.judge(2);
        Check.due("wave(10) for another", x.wave(10), 33);
        Check.due("wave(100)", x.wave(100), 600);
        Check.due("paid 0", x.money(0, 1), 0);
        Check.due("paid 1", x.money(1, 1), 333);
        Check.due("paid 2", x.money(2, 1), 333);
        Check.due("paid in all", x.sum(1), 666);
        Check.due("waves", x.count(5), 6);
    }

    private static ClaimsFund oneOf(long coins) {
        ClaimsFund x = Check.withGrid("points 10;");
        x.fund(coins);
        x.claim(5, 0, 0, 0, 0);
        x.judge(0);
        return x;
    }

    private static void fee() {
        ClaimsFund x = oneOf(1000);
        Check.due("fee -1", x.fee(0, -1), false);
        Check.due("fee 41", x.fee(0, 41), false);
        Check.due("claim 1", x.fee(1, 10), false);
        Check.due("claim -1", x.fee(-1, 10), false);
        Check.due("fee 40", x.fee(0, 40), true);
        Check.due("fee 33", x.fee(0, 33), true);
        Check.due("wave(1)", x.wave(1), 10);
        Check.due("cut", x.money(0, 2), 3);
        Check.due("the person", x.money(0, 5), 7);
        Check.due("fee 0", x.fee(0, 0), true);
        x.wave(2);
        Check.due("no fee", x.money(0, 2), 3);
        Check.due("the person again", x.money(0, 5), 17);
        x.out(0, true);
        ClaimsFund y = Check.withGrid("points 10;");
        y.claim(0, 0, 0, 0, 0);
        Check.due("of an open one", y.fee(0, 5), true);
        y.out(0, true);
        Check.due("of one that is out", y.fee(0, 6), true);
        Check.due("it", y.tell(0, 9), 6);
    }

    private static void liens() {
        ClaimsFund x = oneOf(1000);
        Check.due("rank -1", x.lien(0, -1, 5), -1);
        Check.due("rank 10", x.lien(0, 10, 5), -1);
        Check.due("coins 0", x.lien(0, 0, 0), -1);
        Check.due("coins above the greatest", x.lien(0, 0, 1000000001L), -1);
        Check.due("claim 1", x.lien(1, 0, 5), -1);
        Check.due("claim -1", x.lien(-1, 0, 5), -1);
        Check.due("lien 0", x.lien(0, 9, 1000000000L), 0);
        Check.due("lien 1", x.lien(0, 4, 15), 1);
        Check.due("lien 2", x.lien(0, 4, 5), 2);
        Check.due("lien 3 is none", x.money(0, 13), -1);
        Check.due("lien 3", x.lien(0, 0, 4), 3);
        Check.due("a fifth", x.lien(0, 0, 4), -1);
        x.wave(1);
        Check.due("rank 0", x.money(0, 13), 4);
        Check.due("rank 4, the first", x.money(0, 11), 6);
        Check.due("rank 4, the second", x.money(0, 12), 0);
        x.wave(2);
        Check.due("rank 0 has all", x.money(0, 13), 4);
        Check.due("rank 4, the first has all", x.money(0, 11), 15);
        Check.due("rank 4, the second next", x.money(0, 12), 1);
        Check.due("rank 9 later", x.money(0, 10), 0);
        x.wave(100);
        Check.due("rank 9", x.money(0, 10), 976);
        Check.due("all liens", x.money(0, 3), 1000);
        Check.due("the person", x.money(0, 5), 0);
        Check.due("liens", x.tell(0, 10), 4);
    }

    private static void heirs() {
        ClaimsFund x = oneOf(1000);
        Check.due("part 0", x.heir(0, 0), -1);
        Check.due("part 10", x.heir(0, 10), -1);
        Check.due("claim 1", x.heir(1, 1), -1);
        Check.due("claim -1", x.heir(-1, 1), -1);
        Check.due("heir 0", x.heir(0, 9), 0);
        Check.due("heir 1", x.heir(0, 1), 1);
        Check.due("heir 2", x.heir(0, 2), 2);
        Check.due("heir 3 is none", x.money(0, 23), -1);
        Check.due("heir 3", x.heir(0, 5), 3);
        Check.due("a fifth", x.heir(0, 1), -1);
        x.wave(1);
        Check.due("heir 0 with what is left over", x.money(0, 20), 5 + 2);
        Check.due("heir 1 of 10", x.money(0, 21), 0);
        Check.due("heir 2 of 10", x.money(0, 22), 1);
        Check.due("heir 3 of 10", x.money(0, 23), 2);
        Check.due("all heirs", x.money(0, 4), 10);
        Check.due("the person", x.money(0, 5), 0);
        Check.due("heirs", x.tell(0, 11), 4);
        Check.due("what 14", x.money(0, 14), -1);
        Check.due("what 19", x.money(0, 19), -1);
        Check.due("what 24", x.money(0, 24), -1);
        Check.due("what 9", x.money(0, 9), -1);
        Check.due("what 6", x.money(0, 6), -1);
        Check.due("what -1", x.money(0, -1), -1);
        Check.due("what of claim 1", x.money(1, 1), -1);
        Check.due("what of claim -1", x.money(-1, 0), -1);
    }

    private static void allTogether() {
        ClaimsFund x = oneOf(1000);
        x.fee(0, 25);
        x.lien(0, 3, 100);
        x.heir(0, 1);
        x.heir(0, 2);
        x.wave(99);
        Check.due("paid", x.money(0, 1), 990);
        Check.due("lawyer", x.money(0, 2), 247);
        Check.due("liens", x.money(0, 3), 100);
        Check.due("lien 0", x.money(0, 10), 100);
        Check.due("heirs", x.money(0, 4), 643);
        Check.due("heir 0", x.money(0, 20), 215);
        Check.due("heir 1", x.money(0, 21), 428);
        Check.due("the person", x.money(0, 5), 0);
    }

    private static void toldLater() {
        ClaimsFund x = oneOf(1000);
        x.wave(10);
        x.lien(0, 5, 20);
        x.heir(0, 1);
        Check.due("the lien got nothing yet", x.money(0, 10), 0);
        Check.due("the heir got nothing yet", x.money(0, 20), 0);
        x.wave(15);
        Check.due("the lien", x.money(0, 10), 20);
        Check.due("the heir", x.money(0, 20), 30);
        Check.due("the person", x.money(0, 5), 100);
        x.lien(0, 0, 10);
        x.heir(0, 1);
        x.wave(20);
        Check.due("a later lien", x.money(0, 11), 10);
        Check.due("a later heir", x.money(0, 21), 20);
        Check.due("the first heir", x.money(0, 20), 50);
    }

    private static void finish() {
        ClaimsFund x = Check.withGrid("when paper 0: points 10;");
        Check.due("without points", x.finish(), -1);
        x.claim(0, 0, 0, 0, 1);
        x.claim(1, 0, 0, 0, 1);
        Check.due("one is open", x.finish(), -1);
        x.judge(0);
        Check.due("the other is open", x.finish(), -1);
        Check.due("no end", x.count(6), 0);
        x.wave(50);
        x.out(1, true);
        Check.due("finish", x.finish(), 750);
        Check.due("end", x.count(6), 1);
        Check.due("paid in all", x.sum(1), 1000);
        Check.due("finish again", x.finish(), -1);
        ClaimsFund y = new ClaimsFund();
        y.claim(0, 0, 0, 0, 0);
        y.judge(0);
        Check.due("judged without points", y.finish(), -1);
    }

    private static void rests() {
        ClaimsFund x = Check.withGrid("points 10;");
        for (int i = 0; i < 3; i++) {
            x.claim(i, 0, 0, 0, 0);
            x.judge(i);
        }
        x.fund(11);
        x.fee(0, 40);
        x.heir(0, 1);
        x.heir(0, 9);
        Check.due("finish", x.finish(), 11);
        Check.due("two are left over, 0", x.money(0, 1), 4);
        Check.due("two are left over, 1", x.money(1, 1), 4);
        Check.due("two are left over, 2", x.money(2, 1), 3);
        Check.due("a coin is a payment of its own", x.money(0, 2), 1);
        Check.due("heir 0", x.money(0, 20), 0 + 1 + 1);
        Check.due("heir 1", x.money(0, 21), 1);
        Check.due("the person of 1", x.money(1, 5), 4);
        greatestRest();
    }

    private static void greatestRest() {
        ClaimsFund x = Check.withGrid("when kind=0:points 2;when kind=1:points 3;when kind=2:points 5;");
        for (int i = 0; i < 4; i++) {
            x.claim(i, i, 0, 0, 0);
            x.judge(i);
        }
        x.fund(13);
        x.lien(1, 0, 1);
        Check.due("finish", x.finish(), 13);
        Check.due("rest 6 of 10", x.money(0, 1), 3);
        Check.due("rest 9 of 10", x.money(1, 1), 4);
        Check.due("rest 5 of 10", x.money(2, 1), 6);
        Check.due("without points", x.money(3, 1), 0);
        Check.due("its lien", x.money(1, 3), 1);
        Check.due("worst after the end", x.money(1, 0), 3);
    }

    private static void afterTheEnd() {
        ClaimsFund x = oneOf(1000);
        x.claim(6, 0, 0, 0, 0);
        x.out(1, true);
        x.finish();
        Check.due("fund", x.fund(5), false);
        Check.due("feed", x.feed(0, 0, 0, 0, 0), 20);
        Check.due("end", x.end(3), 3);
        Check.due("grid", x.grid(), -2);
        Check.due("tape is empty", x.end(1), -1);
        Check.due("fault(0)", x.fault(0), 0);
        Check.due("fault(1)", x.fault(1), -1);
        Check.due("claim", x.claim(0, 0, 0, 0, 0), -1);
        Check.due("paper", x.paper(0, 0), false);
        Check.due("judge", x.judge(0), -1);
        Check.due("appeal", x.appeal(0, 10), false);
        Check.due("out", x.out(1, true), false);
        Check.due("back", x.out(1, false), false);
        Check.due("points", x.points(0, 0, 0, 0), 10);
        Check.due("fee", x.fee(0, 1), false);
        Check.due("lien", x.lien(0, 0, 1), -1);
        Check.due("heir", x.heir(0, 1), -1);
        Check.due("wave", x.wave(100), -1);
        Check.due("waves", x.count(5), 0);
        Check.due("finish", x.finish(), -1);
    }

    private static void greatest() {
        ClaimsFund x = Check.withGrid("points 9999; times 9999; more 9999;");
        x.fund(1000000000000L);
        for (int i = 0; i < 15; i++) {
            x.claim(i, 0, 0, 0, 0);
            x.judge(i);
        }
        x.fee(0, 40);
        x.lien(0, 0, 1000000000L);
        x.heir(0, 9);
        x.heir(0, 8);
        Check.due("all", x.sum(2), 15000000);
        Check.due("least of all", x.sum(3), 15000000);
        Check.due("worst", x.money(0, 0), 66666666666L);
        Check.due("wave(100)", x.wave(100), 999999999990L);
        Check.due("lawyer", x.money(0, 2), 26666666666L);
        Check.due("lien", x.money(0, 3), 1000000000L);
        Check.due("heirs", x.money(0, 4), 39000000000L);
        Check.due("finish", x.finish(), 10);
        Check.due("9", x.money(9, 1), 66666666667L);
        Check.due("10", x.money(10, 1), 66666666666L);
        ClaimsFund y = oneOf(1000000000000L);
        y.appeal(0, 1000000);
        Check.due("worst of the only one", y.money(0, 0), 1000000000000L);
        Check.due("all for the only one", y.finish(), 1000000000000L);
    }

    private static void others() {
        ClaimsFund x = oneOf(1000);
        Check.due("sum(4)", x.sum(4), -1);
        Check.due("sum(0)", x.sum(0), 1000);
        Check.due("sum(2)", x.sum(2), 10);
        Check.due("sum(3)", x.sum(3), 10);
        Check.due("count(2)", x.count(2), 1);
        Check.due("count(4)", x.count(4), 1);
        Check.due("money of claim 16", x.money(16, 1), -1);
    }
}
