/** Images: promises 23 and 24. */
public final class ImagesTest {
    private ImagesTest() {
    }

    public static void main(String[] args) {
        numbers();
        allIsKept();
        behindTheEnd();
        claimsComeFreshAfterAnImage();
        manyOfThem();
        liensAndHeirsAreKept();
        theTapeIsKept();
        Check.end();
    }

    private static void numbers() {
        ClaimsFund x = new ClaimsFund();
        Check.due("image(-1)", x.image(-1), false);
        Check.due("image(3)", x.image(3), false);
        Check.due("image(greatest int)", x.image(Integer.MAX_VALUE), false);
        for (int k = 0; k < 3; k++) {
            Check.due("again(" + k + ") of none", x.again(k), false);
            Check.due("image(" + k + ")", x.image(k), true);
            Check.due("again(" + k + ")", x.again(k), true);
        }
        Check.due("again(-1)", x.again(-1), false);
        Check.due("again(3)", x.again(3), false);
    }

    private static void allIsKept() {
        ClaimsFund x = Check.withGrid("points 10; when not paper 1 and years > 2: more 5;");
        Check.grid(x, "points");
        x.fund(777);
        x.claim(1, 2, 3, 4, 5);
        x.claim(2, 0, 0, 0, 0);
        x.judge(0);
        x.fee(0, 10);
        x.lien(0, 3, 20);
        x.heir(0, 4);
        x.wave(20);
        Check.tape(x, "points 199;");
        x.image(1);
        String then = all(x);
        Check.due("a grid", x.grid(), -2);
        x.paper(1, 3);
        x.appeal(0, 90);
        x.fee(0, 20);
        x.lien(0, 2, 500);
        x.heir(0, 4);
        x.claim(9, 0, 0, 0, 0);
        x.wave(100);
        x.judge(1);
        x.judge(2);
        x.finish();
        x.image(2);
        String later = all(x);
        Check.due("it is other", then.equals(later), false);
        Check.due("again(1)", x.again(1), true);
        Check.due("it is as it was", then.equals(all(x)), true);
        Check.due("the tape is as it was", x.end(11), 11);
        Check.due("and what it says", x.grid(), -2);
        Check.due("again(2)", x.again(2), true);
        Check.due("it is as it was later", later.equals(all(x)), true);
        Check.due("again(1) once more", x.again(1), true);
        Check.due("an image is not changed by what comes", then.equals(all(x)), true);
        Check.due("again(0) of none", x.again(0), false);
    }

    private static String all(ClaimsFund x) {
        StringBuilder told = new StringBuilder(Check.told(x));
        for (int papers = 0; papers < 16; papers++) {
            told.append(x.points(papers % 4, papers % 7, papers, papers)).append(' ');
        }
        return told.toString();
    }

    private static void behindTheEnd() {
        ClaimsFund x = Check.withGrid("points 10;");
        x.claim(0, 0, 0, 0, 0);
        x.judge(0);
        x.image(0);
        x.finish();
        Check.due("an image behind the end", x.image(1), true);
        Check.due("before the end", x.again(0), true);
        Check.due("no end", x.count(6), 0);
        Check.due("fund", x.fund(50), true);
        Check.due("finish", x.finish(), 50);
        Check.due("behind the end", x.again(1), true);
        Check.due("the end", x.count(6), 1);
        Check.due("its coins", x.sum(1), 1000);
    }

    private static void claimsComeFreshAfterAnImage() {
        ClaimsFund x = Check.withGrid("points 10;");
        x.image(0);
        x.claim(0, 0, 0, 0, 0);
        x.judge(0);
        x.fee(0, 9);
        x.lien(0, 1, 100);
        x.heir(0, 2);
        x.wave(50);
        x.again(0);
        Check.due("no claims", x.count(0), 0);
        Check.due("nobody judged", x.count(2), 0);
        Check.due("nobody paid", x.sum(1), 0);
        Check.due("a claim", x.claim(4, 0, 0, 0, 0), 0);
        for (int what = 1; what < 6; what++) {
            Check.due("money(0, " + what + ")", x.money(0, what), 0);
        }
        for (int what = 9; what < 12; what++) {
            Check.due("tell(0, " + what + ")", x.tell(0, what), 0);
        }
        Check.due("no lien", x.money(0, 10), -1);
        Check.due("a lien", x.lien(0, 1, 100), 0);
        Check.due("it got nothing", x.money(0, 10), 0);
        Check.due("an heir", x.heir(0, 1), 0);
        Check.due("it got nothing", x.money(0, 20), 0);
    }

    /** An image that is taken over another, after grids were swapped in between. */
    private static void manyOfThem() {
        ClaimsFund x = new ClaimsFund();
        x.claim(0, 0, 0, 0, 0);
        for (int i = 1; i < 9; i++) {
            Check.grid(x, "points " + i + ";");
            x.image(i % 3);
            Check.grid(x, "points 100; more 1;");
            Check.grid(x, "points 200; more 1; more 2;");
            Check.due("points", x.tell(0, 7), 203);
            x.again(i % 3);
            Check.due("points by the image", x.points(0, 0, 0, 0), i);
            Check.due("most by the image", x.tell(0, 7), i);
            Check.due("lines by the image", x.count(4), 1);
        }
        for (int i = 6; i < 9; i++) {
            x.again(i % 3);
            Check.due("points by image " + i % 3, x.points(0, 0, 0, 0), i);
        }
    }

    private static void liensAndHeirsAreKept() {
        ClaimsFund x = Check.withGrid("points 10;");
        x.claim(0, 0, 0, 0, 0);
        x.judge(0);
        x.image(0);
        x.lien(0, 5, 20);
        x.lien(0, 2, 30);
        x.heir(0, 1);
        x.heir(0, 3);
        x.image(1);
        x.again(0);
        x.lien(0, 0, 7);
        x.lien(0, 1, 8);
        x.heir(0, 9);
        x.heir(0, 9);
        x.wave(100);
        Check.due("heir 0 of 9 and 9", x.money(0, 20), 493);
        x.again(1);
        x.wave(4);
        Check.due("rank 5", x.money(0, 10), 10);
        Check.due("rank 2", x.money(0, 11), 30);
        x.wave(45);
        Check.due("rank 5 has all", x.money(0, 10), 20);
        Check.due("heir 0 of 1 and 3", x.money(0, 20), 100);
        Check.due("heir 1 of 1 and 3", x.money(0, 21), 300);
    }

    private static void theTapeIsKept() {
        ClaimsFund x = new ClaimsFund();
        Check.tape(x, "points 3;");
        x.image(0);
        x.end(0);
        Check.tape(x, "none; none;");
        x.again(0);
        Check.due("its length", x.end(9), 9);
        Check.due("not more", x.end(10), -1);
        Check.due("its lines", x.grid(), 1);
        Check.due("its points", x.points(0, 0, 0, 0), 3);
    }
}
