/** The tape, the grid's text with its faults, and the points that it makes: promises 3 to 6 and 12. */
public final class TextTest {
    private TextTest() {
    }

    public static void main(String[] args) {
        feedAndEnd();
        readsBytesHighestFirst();
        acts();
        comparisons();
        subjects();
        papersAndNot();
        severalTests();
        cutsOff();
        blanksAndTokens();
        unreadable();
        noSuchPaper();
        tooMany();
        unreadableGoesFirst();
        faultIsOfTheLatest();
        wrongFacts();
        Check.end();
    }

    private static void feedAndEnd() {
        ClaimsFund x = new ClaimsFund();
        Check.due("end(0) of nothing", x.end(0), 0);
        Check.due("end(1) of nothing", x.end(1), -1);
        for (int i = 1; i <= 20; i++) {
            Check.due("feed " + i, x.feed(0, 0, 0, 0, 0), 20 * i);
        }
        Check.due("feed 21", x.feed(0, 0, 0, 0, 0), -1);
        Check.due("end(401)", x.end(401), -1);
        Check.due("end(-1)", x.end(-1), -1);
        Check.due("end(least int)", x.end(Integer.MIN_VALUE), -1);
        Check.due("end(400)", x.end(400), 400);
        Check.due("end(381)", x.end(381), 381);
        Check.due("feed over 400", x.feed(0, 0, 0, 0, 0), -1);
        Check.due("end(381) again", x.end(381), 381);
        Check.due("end(382)", x.end(382), -1);
        Check.due("end(380)", x.end(380), 380);
        Check.due("feed up to 400", x.feed(0, 0, 0, 0, 0), 400);
        Check.due("end(0)", x.end(0), 0);
        Check.due("feed after end(0)", x.feed(0, 0, 0, 0, 0), 20);
    }

    private static void readsBytesHighestFirst() {
        ClaimsFund x = new ClaimsFund();
        x.feed(0x706f696e, 0x74732031, 0x323b2020, 0x20202020, 0x20202020);
        Check.due("grid of 'points 12;'", x.grid(), 1);
        Check.due("points", x.points(0, 0, 0, 0), 12);
        Check.due("tape is empty", x.end(1), -1);
        Check.due("byte above 127", Check.grid(x, "points 1; " + (char) 233), -1);
        Check.due("its place", x.fault(1), 10);
        Check.due("byte 255", Check.grid(x, (char) 255 + ""), -1);
        Check.due("its fault", x.fault(0), 1);
    }

    private static void points(String text, int kind, int years, int late, int papers, int want) {
        ClaimsFund x = new ClaimsFund();
        Check.grid(x, text);
        Check.due("fault of " + text, x.fault(0), 0);
        String call = "points(" + kind + ", " + years + ", " + late + ", " + papers + ") by " + text;
        Check.due(call, x.points(kind, years, late, papers), want);
    }

    private static void acts() {
        points("", 0, 0, 0, 0, 0);
        points("points 100;", 0, 0, 0, 0, 100);
        points("points 100; points 7;", 0, 0, 0, 0, 7);
        points("points 100; more 7;", 0, 0, 0, 0, 107);
        points("more 7; more 8;", 0, 0, 0, 0, 15);
        points("points 99; times 50;", 0, 0, 0, 0, 49);
        points("points 99; times 0; more 3;", 0, 0, 0, 0, 3);
        points("points 99; none; more 3;", 0, 0, 0, 0, 0);
        points("points 99; when kind = 1: none; more 3;", 1, 0, 0, 0, 0);
        points("points 99; when kind = 1: none; more 3;", 2, 0, 0, 0, 102);
        points("points 0000; more 0012;", 0, 0, 0, 0, 12);
    }

    private static void comparisons() {
        points("when years < 5: points 1;", 0, 4, 0, 0, 1);
        points("when years < 5: points 1;", 0, 5, 0, 0, 0);
        points("when years > 5: points 1;", 0, 5, 0, 0, 0);
        points("when years > 5: points 1;", 0, 6, 0, 0, 1);
        points("when years = 5: points 1;", 0, 5, 0, 0, 1);
        points("when years = 5: points 1;", 0, 6, 0, 0, 0);
        points("when not years = 5: points 1;", 0, 6, 0, 0, 1);
        points("when not years = 5: points 1;", 0, 5, 0, 0, 0);
        points("when not years > 5: points 1;", 0, 5, 0, 0, 1);
    }

    private static void subjects() {
        points("when kind = 3: points 1;", 3, 0, 0, 0, 1);
        points("when years = 60: points 1;", 0, 60, 0, 0, 1);
        points("when late = 999: points 1;", 0, 0, 999, 0, 1);
        points("when papers = 3: points 1;", 0, 0, 0, 0b101010, 1);
        points("when papers = 6: points 1;", 0, 0, 0, 63, 1);
        points("when papers = 3: points 1;", 0, 0, 0, 0b1, 0);
        points("points 7; when sum = 7: more 1; when sum = 8: more 10;", 0, 0, 0, 0, 18);
    }

    private static void papersAndNot() {
        for (int paper = 0; paper < 6; paper++) {
            points("when paper " + paper + ": points 1;", 0, 0, 0, 1 << paper, 1);
            points("when paper " + paper + ": points 1;", 0, 0, 0, 63 - (1 << paper), 0);
            points("when not paper " + paper + ": points 1;", 0, 0, 0, 63 - (1 << paper), 1);
        }
        points("when paper 0005: points 1;", 0, 0, 0, 32, 1);
    }

    private static void severalTests() {
        String four = "when kind = 1 and years = 2 and late = 3 and not paper 0: points 5;";
        points(four, 1, 2, 3, 0, 5);
        points(four, 0, 2, 3, 0, 0);
        points(four, 1, 0, 3, 0, 0);
        points(four, 1, 2, 0, 0, 0);
        points(four, 1, 2, 3, 1, 0);
        points(four + "when kind = 1: more 1;" + four, 1, 2, 4, 0, 1);
        points("when kind = 1 and kind = 2: points 5; points 3; when kind = 1: more 1;", 1, 0, 0, 0, 4);
    }

    private static void cutsOff() {
        points("points 9999; times 9999;", 0, 0, 0, 0, 999800);
        points("points 9999; times 9999; more 199;", 0, 0, 0, 0, 999999);
        points("points 9999; times 9999; more 200;", 0, 0, 0, 0, 1000000);
        points("points 9999; times 9999; more 201;", 0, 0, 0, 0, 1000000);
        points("points 9999; times 9999; times 9999;", 0, 0, 0, 0, 1000000);
        points("points 9999; times 9999; times 9999; times 50;", 0, 0, 0, 0, 500000);
        points("points 9999; times 9999; more 9999; times 50;", 0, 0, 0, 0, 500000);
    }

    private static void blanksAndTokens() {
        points("when kind<2and not paper 3:points12;", 1, 0, 0, 0, 12);
        points("\n\n points\n12 \n;\n", 1, 0, 0, 0, 12);
        points(" \n ", 1, 0, 0, 0, 0);
        fault("points 1;\t", 1, 9);
        fault("points 1;\r", 1, 9);
        fault("points 1 2;", 1, 9);
        fault("po ints 1;", 1, 0);
    }

    private static void fault(String text, int want, int place) {
        ClaimsFund x = new ClaimsFund();
        Check.due("grid of " + text, Check.grid(x, text), -1);
        Check.due("fault of " + text, x.fault(0), want);
        Check.due("place in " + text, x.fault(1), place);
        Check.due("tape is empty after " + text, x.end(1), -1);
        Check.due("lines after " + text, x.count(4), 0);
    }

    private static void unreadable() {
        fault("points", 1, 6);
        fault("points  \n", 1, 9);
        fault("points 5", 1, 8);
        fault("point 5;", 1, 0);
        fault("pointss 5;", 1, 0);
        fault("Points 5;", 1, 0);
        fault("points five;", 1, 7);
        fault("points 12345;", 1, 7);
        fault("points -5;", 1, 7);
        fault("points 5:", 1, 8);
        fault("points 5;;", 1, 9);
        fault("none 5;", 1, 5);
        fault("none", 1, 4);
        fault("more;", 1, 4);
        fault("times >;", 1, 6);
        fault("when", 1, 4);
        fault("when : none;", 1, 5);
        fault("when kind: none;", 1, 9);
        fault("when kind 3: none;", 1, 10);
        fault("when kind = : none;", 1, 12);
        fault("when kind = 3 none;", 1, 14);
        fault("when kind = 3 and: none;", 1, 17);
        fault("when kind = 3 or kind = 2: none;", 1, 14);
        fault("when not not kind = 3: none;", 1, 9);
        fault("when paper = 3: none;", 1, 11);
        fault("when paper: none;", 1, 10);
        fault("when papers 3: none;", 1, 12);
        fault("when kind = 3: when kind = 2: none;", 1, 15);
        fault("when kind = 3:", 1, 14);
        fault("when kind == 3: none;", 1, 11);
        fault("when kinds = 3: none;", 1, 5);
        fault("when kind ? 3: none;", 1, 10);
        fault("when kind / 3: none;", 1, 10);
        fault("kind = 3: none;", 1, 0);
        fault("and kind = 3: none;", 1, 0);
        fault("when lat = 3: none;", 1, 5);
        fault(";", 1, 0);
        fault("7;", 1, 0);
        fault("none; `", 1, 6);
        fault("none; {", 1, 6);
        fault("xoints 5;", 1, 0);
        fault("xhen kind = 3: none;", 1, 0);
        fault("pointsz 5;", 1, 0);
        fault("pointsa 5;", 1, 0);
        for (char low = 0; low < 32; low++) {
            if (low != 10) {
                fault("points 5;" + low, 1, 9);
                fault("points " + low + ";", 1, 7);
                fault(low + " 5;", 1, 0);
            }
        }
    }

    private static void noSuchPaper() {
        fault("when paper 6: none;", 2, 11);
        fault("when paper 9999: none;", 2, 11);
        fault("when not paper 6: none;", 2, 15);
        fault("none; when kind = 9 and paper 7: points 1;", 2, 30);
        fault("when paper 8 and paper 9: none;", 2, 11);
    }

    private static String lines(int n) {
        return "none;".repeat(n);
    }

    private static void tooMany() {
        String four = "when kind=1 and kind=1 and kind=1 and kind=1";
        ClaimsFund x = new ClaimsFund();
        Check.due("16 lines", Check.grid(x, lines(16)), 16);
        Check.due("4 tests", Check.grid(x, four + ":points 1;"), 1);
        fault(lines(17), 3, 80);
        fault(lines(18), 3, 80);
        fault(lines(16) + "  when kind=1: none;", 3, 82);
        fault(four + " and kind=1: none;", 3, four.length() + 5);
        fault(four + " and not kind=1: none;", 3, four.length() + 5);
        fault(four + " and kind=1 and kind=1: none;", 3, four.length() + 5);
        fault(four + " and paper 6: none;", 3, four.length() + 5);
        fault("when paper 6: none;" + lines(16), 2, 11);
        fault(lines(16) + "when paper 6: none;", 3, 80);
        fault(lines(15) + "when paper 6: none; none;", 2, 86);
        fault(four + " and kind=1: none;" + lines(16), 3, four.length() + 5);
        fault(lines(15) + four + " and kind=1: none;", 3, 75 + four.length() + 5);
        Check.due("16 lines, the last of 4 tests", Check.grid(x, lines(15) + four + ":none;"), 16);
    }

    private static void unreadableGoesFirst() {
        String five = "when kind=1 and kind=1 and kind=1 and kind=1 and kind=1";
        fault("when paper 6: none; x", 1, 20);
        fault("when paper 6: none; 12345", 1, 20);
        fault(lines(17) + "x;", 1, 85);
        fault(lines(16) + "x;", 1, 80);
        fault(five + ": none", 1, five.length() + 6);
        fault(five + " and;", 1, five.length() + 4);
    }

    private static void faultIsOfTheLatest() {
        ClaimsFund x = new ClaimsFund();
        Check.due("fault(0) of none", x.fault(0), 0);
        Check.due("fault(1) of none", x.fault(1), -1);
        Check.due("fault(2)", x.fault(2), -1);
        Check.due("fault(-1)", x.fault(-1), -1);
        Check.grid(x, "points 3;");
        Check.due("a fault", Check.grid(x, "points 5"), -1);
        Check.due("fault(0)", x.fault(0), 1);
        Check.due("fault(1)", x.fault(1), 8);
        Check.due("the grid before stays", x.points(0, 0, 0, 0), 3);
        Check.due("its lines", x.count(4), 1);
        Check.due("a sound text", Check.grid(x, "points 5;more 1;"), 2);
        Check.due("fault(0) of it", x.fault(0), 0);
        Check.due("fault(1) of it", x.fault(1), -1);
        Check.due("an empty text", x.grid(), 0);
        Check.due("points by it", x.points(0, 0, 0, 0), 0);
    }

    private static void wrongFacts() {
        ClaimsFund x = Check.withGrid("points 5;");
        Check.due("points of the greatest", x.points(3, 60, 999, 63), 5);
        Check.due("kind 4", x.points(4, 0, 0, 0), -1);
        Check.due("kind -1", x.points(-1, 0, 0, 0), -1);
        Check.due("years 61", x.points(0, 61, 0, 0), -1);
        Check.due("years -1", x.points(0, -1, 0, 0), -1);
        Check.due("late 1000", x.points(0, 0, 1000, 0), -1);
        Check.due("late -1", x.points(0, 0, -1, 0), -1);
        Check.due("papers 64", x.points(0, 0, 0, 64), -1);
        Check.due("papers -1", x.points(0, 0, 0, -1), -1);
    }
}
