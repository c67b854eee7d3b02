/** One test for each sentence about images that names a boundary: promises 23 and 24. */
public final class ImagesEdgesTest {
    private static final int[] NO_IMAGES = {-1, 3, 4, Integer.MIN_VALUE, Integer.MAX_VALUE};

    private ImagesEdgesTest() {
    }

    public static void main(String[] args) {
        imageAtTheEdges();
        imageOfAnotherK();
        imageAsItIsNow();
        imageOverAnother();
        imageOfAllThatIsTold();
        imageOfFundAndTape();
        imageOfEachFact();
        imageOfEachCoin();
        imageOfEachTest();
        imageOfAFullObject();
        imageOfTheEnd();
        againWithoutImage();
        againOfAnotherK();
        againEachItsOwn();
        againAsOftenAsOneLikes();
        againOfANewObject();
        Check.end();
    }

    private static ClaimsFund withClaims(int claims) {
        ClaimsFund x = Check.withGrid("points 10; when paper 1: more 5;");
        for (int i = 0; i < claims; i++) {
            x.claim(i, 0, 0, 0, 0);
        }
        return x;
    }

    private static void imageAtTheEdges() {
        Check.sentence("Promise 23", "Image k (0 .. 2) is all that is told: true");
        ClaimsFund x = new ClaimsFund();
        for (int k = 0; k < 3; k++) {
            Check.due("image(" + k + ")", x.image(k), true);
            Check.due("image(" + k + ") again", x.image(k), true);
        }
    }

    private static void imageOfAnotherK() {
        Check.sentence("Promise 23", "false for another k");
        ClaimsFund x = withClaims(2);
        String before = Check.told(x);
        for (int k : NO_IMAGES) {
            Check.due("image(" + k + ")", x.image(k), false);
            Check.due("again(" + k + ")", x.again(k), false);
        }
        Check.unchanged("image", x, before);
        for (int k = 0; k < 3; k++) {
            Check.due("again(" + k + ")", x.again(k), false);
        }
        x.image(0);
        x.image(2);
        x.claim(9, 0, 0, 0, 0);
        x.image(3);
        x.image(-1);
        Check.due("again(2)", x.again(2), true);
        Check.due("count(0) of image 2", x.count(0), 2);
        Check.due("again(0)", x.again(0), true);
        Check.due("count(0) of image 0", x.count(0), 2);
    }

    private static void imageAsItIsNow() {
        Check.sentence("Promise 23", "as it is now");
        ClaimsFund x = withClaims(2);
        x.judge(0);
        x.lien(0, 3, 20);
        x.heir(0, 4);
        x.fee(0, 3);
        String before = Check.told(x);
        x.image(1);
        Check.unchanged("what image(1) leaves; it", x, before);
        x.wave(50);
        x.lien(0, 2, 20);
        x.heir(0, 5);
        x.fee(0, 5);
        x.paper(1, 1);
        x.judge(1);
        x.appeal(1, 3);
        x.claim(2, 0, 0, 0, 0);
        x.out(2, true);
        Check.grid(x, "points 1; more 1; more 1;");
        x.again(1);
        Check.unchanged("what came behind the image; it", x, before);
    }

    private static void imageOverAnother() {
        Check.sentence("Promise 23", "Image k is all that is told, as it is now (over what it was)");
        ClaimsFund x = withClaims(1);
        x.image(0);
        x.claim(1, 0, 0, 0, 0);
        x.image(1);
        x.claim(2, 0, 0, 0, 0);
        x.image(0);
        x.claim(3, 0, 0, 0, 0);
        x.again(0);
        Check.due("count(0) of image 0", x.count(0), 3);
        x.again(1);
        Check.due("count(0) of image 1", x.count(0), 2);
        x.image(0);
        x.again(0);
        Check.due("count(0) of image 0, smaller than before", x.count(0), 2);
        Check.due("tell(2, 0)", x.tell(2, 0), -1);
        Check.due("sum(2)", x.sum(2), 30);
    }

    private static void imageOfAllThatIsTold() {
        Check.sentence("Promise 23", "all that is told");
        ClaimsFund x = withClaims(2);
        Check.grid(x, "points 5; when paper 6: none;");
        x.fund(777);
        x.judge(0);
        x.wave(10);
        Check.tape(x, "points 5; more 1;");
        x.image(2);
        String before = Check.told(x);
        x.end(0);
        Check.grid(x, "x");
        Check.due("again(2)", x.again(2), true);
        Check.unchanged("what was told", x, before);
        Check.due("fault(0)", x.fault(0), 2);
        Check.due("fault(1)", x.fault(1), 21);
        Check.due("the tape has no more", x.end(18), -1);
        Check.due("the tape has as much", x.end(17), 17);
        Check.due("grid()", x.grid(), 2);
        Check.due("points(0, 0, 0, 0)", x.points(0, 0, 0, 0), 6);
        x.again(2);
        Check.due("points(0, 0, 0, 0) again", x.points(0, 0, 0, 0), 10);
        Check.due("end(17)", x.end(17), 17);
    }

    private static void imageOfFundAndTape() {
        Check.sentence("Promise 23", "all that is told: THE FUND, THE TAPE");
        ClaimsFund x = new ClaimsFund();
        x.fund(777);
        Check.tape(x, " ".repeat(395) + "none;");
        x.image(0);
        x.fund(5);
        x.end(399);
        Check.due("again(0)", x.again(0), true);
        Check.due("sum(0)", x.sum(0), 777);
        x.end(380);
        x.feed(-1, -1, -1, -1, -1);
        Check.due("again(0) with another last byte", x.again(0), true);
        Check.due("grid() of a full tape", x.grid(), 1);
        x.feed(0, 0, 0, 0, 0);
        x.again(0);
        Check.due("end(400)", x.end(400), 400);
    }

    /** The same claim, liens and heirs with other facts on the other side of each image. */
    private static void imageOfEachFact() {
        Check.sentence("Promise 23", "all that is told: CLAIMS, LIENS, HEIRS");
        ClaimsFund x = Check.withGrid("points 10;");
        x.image(0);
        x.claim(1, 2, 3, 4, 5);
        for (int i = 0; i < 4; i++) {
            x.lien(0, 6 + i, 50 + i);
            x.heir(0, 1 + i);
        }
        x.judge(0);
        x.image(1);
        x.again(0);
        x.claim(99, 3, 60, 999, 63);
        for (int i = 0; i < 4; i++) {
            x.lien(0, 3 - i, 10 + i);
            x.heir(0, 9 - i);
        }
        x.judge(0);
        x.wave(1);
        x.image(2);
        x.again(1);
        facts(x, new int[] {1, 2, 3, 4, 5});
        x.wave(10);
        parts(x, 10, new long[] {50, 50, 0, 0});
        x.wave(100);
        parts(x, 10, new long[] {50, 51, 52, 53});
        parts(x, 20, new long[] {81, 158, 238, 317});
        x.again(2);
        facts(x, new int[] {99, 3, 60, 999, 63});
        parts(x, 10, new long[] {0, 0, 0, 10});
        x.wave(2);
        parts(x, 10, new long[] {0, 0, 7, 13});
        x.wave(100);
        parts(x, 10, new long[] {10, 11, 12, 13});
        parts(x, 20, new long[] {288, 254, 222, 190});
    }

    private static void facts(ClaimsFund x, int[] want) {
        for (int what = 0; what < 5; what++) {
            Check.due("tell(0, " + what + ")", x.tell(0, what), want[what]);
        }
    }

    private static void parts(ClaimsFund x, int from, long[] want) {
        for (int i = 0; i < 4; i++) {
            Check.due("money(0, " + (from + i) + ")", x.money(0, from + i), want[i]);
        }
    }

    private static void imageOfEachCoin() {
        Check.sentence("Promise 23", "all that is told: what was PAID, and to whom");
        ClaimsFund x = withClaims(1);
        x.judge(0);
        x.fee(0, 10);
        x.lien(0, 0, 5);
        x.wave(1);
        x.image(0);
        String before = Check.told(x);
        x.heir(0, 1);
        x.wave(50);
        x.again(0);
        Check.unchanged("what the heir got; it", x, before);
        x.wave(50);
        Check.due("the person without an heir", x.money(0, 5), 445);
        x.again(0);
        Check.unchanged("what the person got; it", x, before);
        Check.due("the person", x.money(0, 5), 4);
    }

    private static void imageOfEachTest() {
        Check.sentence("Promise 23", "all that is told: THE GRID");
        ClaimsFund x = Check.withGrid("when years<5 and late>6: points 1;"
            + "when not kind=2 and paper 3: more 20; more 300;");
        int[] want = {x.points(2, 4, 7, 0), x.points(1, 5, 7, 8), x.points(2, 4, 6, 8)};
        int[] due = {301, 320, 300};
        x.image(1);
        Check.grid(x, "when years>5 and late<6: more 7; when kind=3 and not paper 5: none; times 50;");
        Check.grid(x, "when not years=5 and sum<6: times 7; when papers=3: none; points 50; none;");
        x.again(1);
        for (int i = 0; i < 3; i++) {
            Check.due("points before the image, " + i, want[i], due[i]);
        }
        Check.due("points(2, 4, 7, 0)", x.points(2, 4, 7, 0), 301);
        Check.due("points(1, 5, 7, 8)", x.points(1, 5, 7, 8), 320);
        Check.due("points(2, 4, 6, 8)", x.points(2, 4, 6, 8), 300);
        Check.due("points(2, 5, 7, 0)", x.points(2, 5, 7, 0), 300);
        Check.due("count(4)", x.count(4), 3);
    }

    private static void imageOfAFullObject() {
        Check.sentence("Promise 23", "all that is told (as much as can be)");
        ClaimsFund x = Check.withGrid("more 1;".repeat(15)
            + "when kind<1 and years=0 and sum>14 and not paper 5: more 7;");
        for (int i = 0; i < 16; i++) {
            x.claim(i, 0, 0, 0, i);
        }
        for (int i = 0; i < 4; i++) {
            x.lien(15, i, 1);
            x.heir(15, 1 + i);
        }
        x.judge(15);
        Check.tape(x, "none;".repeat(80));
        x.image(0);
        x.end(0);
        x.grid();
        x.wave(100);
        x.again(0);
        Check.due("points(0, 0, 0, 0)", x.points(0, 0, 0, 0), 22);
        Check.due("points(0, 0, 0, 32)", x.points(0, 0, 0, 32), 15);
        Check.due("count(4)", x.count(4), 16);
        for (int i = 0; i < 16; i++) {
            Check.due("papers of " + i, x.tell(i, 4), i);
            Check.due("most of " + i, x.tell(i, 7), 22);
        }
        Check.due("wave(100)", x.wave(100), 62);
        long[] heirs = {58 - 11 - 17 - 23, 11, 17, 23};
        for (int i = 0; i < 4; i++) {
            Check.due("lien " + i, x.money(15, 10 + i), 1);
            Check.due("heir " + i, x.money(15, 20 + i), heirs[i]);
        }
        Check.due("feed behind a full tape", x.feed(0, 0, 0, 0, 0), -1);
        Check.due("grid() of a full tape", x.grid(), -1);
        Check.due("fault(0)", x.fault(0), 3);
        Check.due("fault(1)", x.fault(1), 80);
    }

    private static void imageOfTheEnd() {
        Check.sentence("Term 3", "Behind THE END nothing changes any more but by images");
        ClaimsFund x = withClaims(1);
        x.judge(0);
        x.image(0);
        x.finish();
        Check.due("image(1) behind the end", x.image(1), true);
        Check.due("again(0) behind the end", x.again(0), true);
        Check.due("count(6)", x.count(6), 0);
        Check.due("sum(1)", x.sum(1), 0);
        Check.due("wave(10)", x.wave(10), 100);
        Check.due("again(1)", x.again(1), true);
        Check.due("count(6) of the end", x.count(6), 1);
        Check.due("sum(1) of the end", x.sum(1), 1000);
        Check.due("wave(10) behind the end", x.wave(10), -1);
        Check.due("again(2) of none", x.again(2), false);
        Check.due("count(6)", x.count(6), 1);
    }

    private static void againWithoutImage() {
        Check.sentence("Promise 24", "false: there is none such (no image k was told)");
        ClaimsFund x = withClaims(2);
        String before = Check.told(x);
        for (int k = 0; k < 3; k++) {
            Check.due("again(" + k + ")", x.again(k), false);
        }
        Check.unchanged("again", x, before);
        x.image(1);
        Check.due("again(0)", x.again(0), false);
        Check.due("again(2)", x.again(2), false);
        Check.due("again(1)", x.again(1), true);
        Check.due("again(0) then", x.again(0), false);
        Check.due("again(2) then", x.again(2), false);
        Check.unchanged("again", x, before);
    }

    private static void againOfAnotherK() {
        Check.sentence("Promise 24", "false: there is none such (another k)");
        ClaimsFund x = withClaims(2);
        for (int k = 0; k < 3; k++) {
            x.image(k);
        }
        x.claim(9, 0, 0, 0, 0);
        String before = Check.told(x);
        for (int k : NO_IMAGES) {
            Check.due("again(" + k + ")", x.again(k), false);
        }
        Check.unchanged("again", x, before);
    }

    private static void againEachItsOwn() {
        Check.sentence("Promise 24", "All that is as image k has it: true");
        ClaimsFund x = withClaims(0);
        for (int k = 0; k < 3; k++) {
            x.claim(k, 0, 0, 0, 0);
            Check.grid(x, "more 1;".repeat(k + 1));
            x.image(k);
        }
        for (int k : new int[] {2, 0, 1, 0, 2, 2, 1}) {
            Check.due("again(" + k + ")", x.again(k), true);
            Check.due("count(0)", x.count(0), k + 1);
            Check.due("count(4)", x.count(4), k + 1);
            Check.due("sum(2)", x.sum(2), (k + 1) * (k + 1));
        }
    }

    private static void againAsOftenAsOneLikes() {
        Check.sentence("Promise 24", "as image k has it (what comes behind again does not change the image)");
        ClaimsFund x = withClaims(1);
        x.judge(0);
        x.lien(0, 1, 7);
        x.heir(0, 1);
        x.image(2);
        String before = Check.told(x);
        for (int i = 0; i < 3; i++) {
            x.wave(10 + i);
            x.lien(0, 1, 7);
            x.heir(0, 9);
            x.fee(0, 30);
            Check.grid(x, "points 99; none;");
            x.claim(1, 0, 0, 0, 0);
            x.finish();
            Check.due("again(2)", x.again(2), true);
            Check.unchanged("what came behind again; it", x, before);
        }
    }

    private static void againOfANewObject() {
        Check.sentence("Promise 24", "All that is as image k has it (an image of a new object)");
        ClaimsFund x = new ClaimsFund();
        String before = Check.told(x);
        x.image(0);
        Check.grid(x, "points 10; more 1;");
        x.claim(7, 1, 1, 1, 1);
        x.fee(0, 9);
        x.lien(0, 1, 100);
        x.heir(0, 2);
        x.judge(0);
        x.wave(50);
        x.feed(0, 0, 0, 0, 0);
        x.again(0);
        Check.unchanged("all of that", x, before);
        Check.due("end(1)", x.end(1), -1);
        Check.due("the first claim", x.claim(0, 0, 0, 0, 0), 0);
        for (int what = 0; what < 12; what++) {
            Check.due("tell(0, " + what + ")", x.tell(0, what), 0);
        }
        Check.due("a lien that it has not", x.money(0, 10), -1);
        Check.due("lien(0, 1, 100)", x.lien(0, 1, 100), 0);
        Check.due("what it got", x.money(0, 10), 0);
        Check.due("heir(0, 2)", x.heir(0, 2), 0);
        Check.due("what it got", x.money(0, 20), 0);
    }
}
