import java.util.ArrayList;
import java.util.List;

/** One test for each sentence about the tape and the text that names a boundary: term 2, promises 3 to 6 and 12. */
public final class TextEdgesTest {
    private static final String FOUR = "when kind=1 and kind=1 and kind=1 and kind=1";

    private TextEdgesTest() {
    }

    public static void main(String[] args) {
        blanks();
        words();
        eachWordWhole();
        numbers();
        longerRows();
        signs();
        noLines();
        testsOfALine();
        partsOfATest();
        partsOfALine();
        oneNot();
        comparisons();
        unreadableAtEachToken();
        unreadableAtTheEnd();
        papersBeyond();
        seventeenthLine();
        fifthTest();
        unreadableGoesFirst();
        firstOfTheOthers();
        pointsByLines();
        timesIsCut();
        noneIsTheLast();
        neverAboveAMillion();
        cutLineByLine();
        noWrapAround();
        howManyPapers();
        feedComesBehind();
        feedHighestFirst();
        feedBeyond400();
        endCutsOff();
        endOfTooMany();
        endBelowZero();
        gridTakesTheTape();
        gridFromNowOn();
        gridOfItsTextAlone();
        gridCountsLines();
        gridWithAFault();
        gridThatWouldNotHold();
        gridBehindTheEnd();
        gridRefusedEmptiesTheTape();
        gridRefusedHasNoFault();
        faultOfTheLatest();
        faultWithout();
        faultOfAnotherWhat();
        pointsOfOthers();
        Check.end();
    }

    private static void sound(String text, int lines) {
        ClaimsFund x = new ClaimsFund();
        Check.due("grid() of " + text, Check.grid(x, text), lines);
        Check.due("fault(0) of " + text, x.fault(0), 0);
        Check.due("fault(1) of " + text, x.fault(1), -1);
        Check.due("count(4) of " + text, x.count(4), lines);
    }

    private static void faulty(String text, int fault, int place) {
        ClaimsFund x = new ClaimsFund();
        Check.due("grid() of " + text, Check.grid(x, text), -1);
        Check.due("fault(0) of " + text, x.fault(0), fault);
        Check.due("fault(1) of " + text, x.fault(1), place);
        Check.due("count(4) of " + text, x.count(4), 0);
    }

    private static void points(String text, int kind, int years, int late, int papers, int want) {
        ClaimsFund x = new ClaimsFund();
        Check.grid(x, text);
        Check.due("fault(0) of " + text, x.fault(0), 0);
        Check.due("points(" + kind + ", " + years + ", " + late + ", " + papers + ") by " + text,
            x.points(kind, years, late, papers), want);
    }

    private static void points(String text, int want) {
        points(text, 0, 0, 0, 0, want);
    }

    private static String lines(int n) {
        return "none;".repeat(n);
    }

    private static boolean isLetter(int sign) {
        return sign >= 'a' && sign <= 'z';
    }

    private static void blanks() {
        Check.sentence("Term 2", "blanks (10, 32) between");
        for (char sign = 0; sign < 256; sign++) {
            String text = "none" + sign + ";";
            if (sign == 10 || sign == 32) {
                sound(text, 1);
            } else {
                faulty(text, 1, isLetter(sign) ? 0 : sign == ';' ? 5 : 4);
            }
        }
        sound("\n \nnone \n ; \n\n", 1);
        sound("when kind<2and not paper 3:points12;more1;", 2);
        faulty("no ne;", 1, 0);
        faulty("points 1 2;", 1, 9);
        faulty("whenkind=1:none;", 1, 0);
    }

    private static void words() {
        Check.sentence("Term 2", "WORDS, rows of letters a .. z");
        for (char sign = 33; sign < 256; sign++) {
            if (sign != ';' && (sign < '0' || sign > '9')) {
                faulty(sign + "none;", 1, 0);
                faulty("points" + sign + "5;", 1, isLetter(sign) ? 0 : 6);
            }
        }
        faulty("None;", 1, 0);
        faulty("nonE;", 1, 0);
        faulty("z", 1, 0);
    }

    private static void eachWordWhole() {
        Check.sentence("Term 2", "TOKENS, as long as they go (a word is no part of another)");
        String[] texts = {"when kind=1 and kind=2:none;", "when not kind=1:none;", "when years=1:none;",
            "when late=1:none;", "when papers=1:none;", "when sum=1:none;", "when paper 1:none;", "points 1;",
            "more 1;", "times 1;", "none;"};
        String[] words = {"and", "not", "years", "late", "papers", "sum", "paper", "points", "more", "times", "none"};
        for (int i = 0; i < texts.length; i++) {
            sound(texts[i], 1);
            for (String other : others(words[i])) {
                faulty(texts[i].replace(words[i], other), 1, texts[i].indexOf(words[i]));
            }
        }
        for (String other : others("when")) {
            faulty(other + " kind=1:none;", 1, 0);
        }
        for (String other : others("kind")) {
            faulty("when " + other + "=1:none;", 1, 5);
        }
    }

    /** A letter more, before or behind, a letter less, or another letter; none of these is a word of the grammar. */
    private static List<String> others(String word) {
        List<String> all = new ArrayList<>(List.of(word + "x", "x" + word, word + word, word.substring(1)));
        if (!word.equals("papers")) {
            all.add(word.substring(0, word.length() - 1));
        }
        for (int i = 0; i < word.length(); i++) {
            all.add(word.substring(0, i) + "x" + word.substring(i + 1));
        }
        return all;
    }

    private static void numbers() {
        Check.sentence("Term 2", "NUMBERS, 1 to 4 digits");
        for (char sign = 33; sign < 256; sign++) {
            boolean digit = sign >= '0' && sign <= '9';
            if (digit) {
                points("points " + sign + ";", sign - '0');
                points("points 123" + sign + ";", 1230 + sign - '0');
            } else {
                faulty("points " + sign + ";", 1, 7);
            }
        }
        faulty("points ;", 1, 7);
        points("points 10;", 10);
        points("points 100;", 100);
        points("points 1000;", 1000);
        points("points 9999;", 9999);
        points("points 0000;", 0);
        points("points 0001;", 1);
        faulty("points 10000;", 1, 7);
        faulty("points 00001;", 1, 7);
    }

    private static void longerRows() {
        Check.sentence("Term 2", "a longer row of digits is no token");
        faulty("points 00000;", 1, 7);
        faulty("points 99999;", 1, 7);
        faulty("more 123456789012345678901234567890;", 1, 5);
        faulty("12345", 1, 0);
        faulty("points 1 23456;", 1, 9);
        faulty("when kind = 12345: none;", 1, 12);
        faulty("when paper 00005: none;", 1, 11);
        points("points 1;more 2222;", 2223);
        faulty("points 1 2222;", 1, 9);
    }

    private static void signs() {
        Check.sentence("Term 2", "signs : ; < > = one byte each");
        faulty("when kind<>5:none;", 1, 10);
        faulty("when kind==5:none;", 1, 10);
        faulty("when kind<=5:none;", 1, 10);
        faulty("when kind=5::none;", 1, 12);
        faulty("none;;", 1, 5);
        faulty("when kind?5:none;", 1, 9);
        faulty("when kind:5:none;", 1, 9);
        faulty("when kind;5:none;", 1, 9);
        faulty("when kind@5:none;", 1, 9);
        faulty("when kind=5;none;", 1, 11);
        faulty("when kind=5/none;", 1, 11);
        faulty("none:", 1, 4);
        faulty("none?", 1, 4);
        sound("when kind<5:none;when kind>5:none;when kind=5:none;", 3);
    }

    private static void noLines() {
        Check.sentence("Term 2", "TEXT: {LINE}");
        sound("", 0);
        sound(" ", 0);
        sound("\n".repeat(400), 0);
        sound("none;", 1);
        ClaimsFund x = Check.withGrid("points 7;");
        Check.due("grid() of an empty tape", x.grid(), 0);
        Check.due("points(0, 0, 0, 0) by it", x.points(0, 0, 0, 0), 0);
    }

    private static void testsOfALine() {
        Check.sentence("Term 2", "LINE: ['when' TEST {'and' TEST} ':']");
        faulty("when: none;", 1, 4);
        faulty("when and kind=1: none;", 1, 5);
        faulty("when kind=1 and: none;", 1, 15);
        faulty("when kind=1 and and kind=1: none;", 1, 16);
        faulty("when kind=1 kind=1: none;", 1, 12);
        faulty(": none;", 1, 0);
        points("points 3;", 3);
        points("when kind=0: points 3;", 3);
        points("when kind=0 and years=0: points 3;", 3);
        points("when kind=0 and years=1: points 3;", 0);
    }

    private static void partsOfATest() {
        Check.sentence("Term 2", "('kind' | ..) ('<' | '>' | '=') NUMBER | 'paper' NUMBER (each of them is due)");
        for (String subject : new String[] {"kind", "years", "late", "papers", "sum"}) {
            int behind = 5 + subject.length();
            faulty("when " + subject + ":none;", 1, behind);
            faulty("when " + subject + " 5:none;", 1, behind + 1);
            faulty("when " + subject + "=:none;", 1, behind + 1);
            faulty("when " + subject + "<and kind=1:none;", 1, behind + 1);
            faulty("when " + subject + "5=:none;", 1, behind);
        }
        faulty("when paper:none;", 1, 10);
        faulty("when paper=5:none;", 1, 10);
        faulty("when paper and kind=1:none;", 1, 11);
        faulty("when =5:none;", 1, 5);
        faulty("when 5=kind:none;", 1, 5);
    }

    private static void partsOfALine() {
        Check.sentence("Term 2", "('points' NUMBER | 'more' NUMBER | ..) ';' (each of them is due)");
        for (String act : new String[] {"points", "more", "times"}) {
            faulty(act + ";", 1, act.length());
            faulty(act + " 5", 1, act.length() + 2);
            faulty(act + " 5 none;", 1, act.length() + 3);
            faulty(act + " none;", 1, act.length() + 1);
            faulty("5 " + act + ";", 1, 0);
        }
        faulty("none 5;", 1, 5);
        faulty("none none;", 1, 5);
        faulty(";", 1, 0);
        faulty("when kind=1:;", 1, 12);
        faulty("when kind=1:", 1, 12);
        faulty("when kind=1:when kind=1:none;", 1, 12);
    }

    private static void oneNot() {
        Check.sentence("Term 2", "TEST: ['not']");
        faulty("when not not kind=1: none;", 1, 9);
        faulty("when not: none;", 1, 8);
        faulty("when kind=1 not and kind=1: none;", 1, 12);
        points("when not kind=1: points 3;", 0, 0, 0, 0, 3);
        points("when not kind=1: points 3;", 1, 0, 0, 0, 0);
        points("when not kind=1 and years=0: points 3;", 0, 1, 0, 0, 0);
    }

    private static void comparisons() {
        Check.sentence("Term 2", "('<' | '>' | '=') NUMBER");
        for (int i = -1; i <= 1; i++) {
            comparesAll("<", i, i < 0);
            comparesAll(">", i, i > 0);
            comparesAll("=", i, i == 0);
        }
        points("when years < 0: points 1;", 0);
        points("when not years < 0: points 1;", 1);
        points("when late > 999: points 1;", 0, 0, 999, 0, 0);
        points("when late < 9999: points 1;", 0, 0, 999, 0, 1);
        points("when sum = 0: points 1;", 1);
        points("when sum > 0: points 1;", 0);
        points("when papers < 1: points 1;", 1);
        points("when papers > 5: points 1;", 0, 0, 0, 63, 1);
        points("when papers > 6: points 1;", 0, 0, 0, 63, 0);
    }

    /** Each subject, by as much above the number as it is told. */
    private static void comparesAll(String sign, int above, boolean met) {
        int want = met ? 1 : 0;
        points("when kind" + sign + "2:points 1;", 2 + above, 0, 0, 0, want);
        points("when years" + sign + "59:points 1;", 0, 59 + above, 0, 0, want);
        points("when late" + sign + "998:points 1;", 0, 0, 998 + above, 0, want);
        points("when papers" + sign + "5:points 1;", 0, 0, 0, (1 << 5 + above) - 1, want);
        points("points " + (9998 + above) + ";when sum" + sign + "9998:times 0;", met ? 0 : 9998 + above);
    }

    private static void unreadableAtEachToken() {
        Check.sentence("Term 2", "1 the first byte or token with which no text goes on");
        String sound = "when not kind < 1 and paper 2 : more 3 ; none ;";
        sound(sound, 2);
        int from = 0;
        while (from < sound.length()) {
            int behind = sound.indexOf(' ', from);
            behind = behind < 0 ? sound.length() : behind;
            String rest = sound.substring(behind);
            faulty(sound.substring(0, from) + "#" + rest, 1, from);
            faulty(sound.substring(0, from) + "x" + rest, 1, from);
            faulty(sound.substring(0, from) + "12345" + rest, 1, from);
            if (sound.charAt(from) != '<') {
                faulty(sound.substring(0, from) + "=" + rest + " #", 1, from);
            }
            from = behind + 1;
        }
        faulty(sound + "\t", 1, sound.length());
        faulty(sound + "  \n 5", 1, sound.length() + 4);
    }

    private static void unreadableAtTheEnd() {
        Check.sentence("Term 2", "with their places (a token's first byte; the end's)");
        String sound = "when not kind < 1 and paper 2 : more 3 ;";
        for (int from = 4; from < sound.length() - 1; from++) {
            if (sound.charAt(from) == ' ') {
                faulty(sound.substring(0, from), 1, from);
                faulty(sound.substring(0, from + 1), 1, from + 1);
            }
        }
        faulty("points 12", 1, 9);
        faulty("point", 1, 0);
        faulty(" ".repeat(399) + "x", 1, 399);
        faulty("points" + " ".repeat(394), 1, 400);
        sound(" ".repeat(395) + "none;", 1);
    }

    private static void papersBeyond() {
        Check.sentence("Term 2", "2 'paper' NUMBER that is not 0 .. 5");
        for (int paper = 0; paper <= 5; paper++) {
            sound("when paper " + paper + ": none;", 1);
            points("when paper " + paper + ": points 1;", 0, 0, 0, 1 << paper, 1);
            points("when paper " + paper + ": points 1;", 0, 0, 0, 63 ^ 1 << paper, 0);
        }
        sound("when paper 0005: none;", 1);
        faulty("when paper 6: none;", 2, 11);
        faulty("when paper 0006: none;", 2, 11);
        faulty("when paper 10: none;", 2, 11);
        faulty("when paper 32: none;", 2, 11);
        faulty("when paper 9999: none;", 2, 11);
        faulty("when not paper  6: none;", 2, 16);
        faulty("none;when kind=1 and paper 6: none;", 2, 27);
        sound("when papers=6: none;", 1);
        sound("when papers>9999: none;", 1);
    }

    private static void seventeenthLine() {
        Check.sentence("Term 2", "3 one too many, at its first token: a 17th LINE");
        sound(lines(16), 16);
        faulty(lines(17), 3, 80);
        faulty(lines(18), 3, 80);
        faulty(lines(16) + " \n points 1;", 3, 83);
        faulty(lines(16) + " when kind=1: none;", 3, 81);
        faulty(lines(80), 3, 80);
        points("more 1;".repeat(16), 16);
    }

    private static void fifthTest() {
        Check.sentence("Term 2", "3 one too many, at its first token: a 5th TEST of a LINE");
        sound(FOUR + ":none;", 1);
        sound(FOUR + ":none;" + FOUR + ":none;" + FOUR + ":none;", 3);
        faulty(FOUR + " and kind=1: none;", 3, FOUR.length() + 5);
        faulty(FOUR + " and  not kind=1: none;", 3, FOUR.length() + 6);
        faulty(FOUR + " and paper 1: none;", 3, FOUR.length() + 5);
        faulty(FOUR + " and kind=1 and kind=1: none;", 3, FOUR.length() + 5);
        faulty("none;" + FOUR + " and kind=1: none;", 3, FOUR.length() + 10);
        String each = "when kind=1 and years=2 and late=3 and papers=0: points 5;";
        points(each, 1, 2, 3, 0, 5);
        points(each, 0, 2, 3, 0, 0);
        points(each, 1, 1, 3, 0, 0);
        points(each, 1, 2, 2, 0, 0);
        points(each, 1, 2, 3, 1, 0);
    }

    private static void unreadableGoesFirst() {
        Check.sentence("Term 2", "1 the first byte or token .. If there is none, the first of");
        faulty("when paper 6: none; x", 1, 20);
        faulty("when paper 6: none", 1, 18);
        faulty(lines(16) + "none;x", 1, 85);
        faulty(lines(16) + "none", 1, 84);
        faulty(lines(16) + "x", 1, 80);
        faulty(FOUR + " and kind=1: none;;", 1, FOUR.length() + 18);
        faulty(FOUR + " and x", 1, FOUR.length() + 5);
        faulty(FOUR + " and", 1, FOUR.length() + 4);
        faulty(FOUR + " and paper 12345: none;", 1, FOUR.length() + 11);
    }

    private static void firstOfTheOthers() {
        Check.sentence("Term 2", "If there is none, the first of: 2 .. 3 ..");
        faulty("when paper 6 and paper 7: none;", 2, 11);
        faulty("when paper 6: none;" + lines(16), 2, 11);
        faulty(lines(15) + "when paper 6: none; none;", 2, 86);
        faulty(lines(16) + "when paper 6: none;", 3, 80);
        faulty(FOUR + " and paper 6: none;", 3, FOUR.length() + 5);
        faulty("when paper 6 and" + FOUR.substring(4) + ": none;", 2, 11);
        faulty(FOUR + " and kind=1: none;" + lines(16), 3, FOUR.length() + 5);
        faulty(lines(16) + FOUR + " and kind=1: none;", 3, 80);
        faulty(lines(15) + FOUR + " and kind=1: none;none;", 3, 80 + FOUR.length());
    }

    private static void pointsByLines() {
        Check.sentence("Term 2", "points: they are that; more: so many more");
        points("points 0;", 0);
        points("points 9999; points 0;", 0);
        points("points 5; points 9999;", 9999);
        points("more 0;", 0);
        points("points 9999; more 0;", 9999);
        points("more 9999; more 9999;", 19998);
        points("when kind=1: points 5;", 0);
    }

    private static void timesIsCut() {
        Check.sentence("Term 2", "times: so many of a hundred of them, cut");
        points("points 1; times 99;", 0);
        points("points 1; times 100;", 1);
        points("points 1; times 199;", 1);
        points("points 1; times 200;", 2);
        points("points 199; times 50;", 99);
        points("points 9999; times 0;", 0);
        points("times 9999;", 0);
        points("points 9999; times 1;", 99);
        points("points 9999; times 9999;", 999800);
    }

    private static void noneIsTheLast() {
        Check.sentence("Term 2", "none: they are 0, and no further LINE");
        points("points 5; none;", 0);
        points("points 5; none; points 7; more 1;", 0);
        points("points 5; when kind=1: none; more 2;", 7);
        points("points 5; when kind=1: none; more 2;", 1, 0, 0, 0, 0);
        points("more 1;".repeat(15) + "none;", 0);
    }

    private static final String NEAR_A_MILLION = "points 9999; times 9999; ";

    private static void neverAboveAMillion() {
        Check.sentence("Term 2", "but never above 1000000");
        points(NEAR_A_MILLION, 999800);
        points(NEAR_A_MILLION + "more 199;", 999999);
        points(NEAR_A_MILLION + "more 200;", 1000000);
        points(NEAR_A_MILLION + "more 201;", 1000000);
        points(NEAR_A_MILLION + "times 100;", 999800);
        points(NEAR_A_MILLION + "times 101;", 1000000);
        points(NEAR_A_MILLION + "more 200; times 100;", 1000000);
        points(NEAR_A_MILLION + "more 200; times 101;", 1000000);
    }

    private static void cutLineByLine() {
        Check.sentence("Term 2", "(what is above is cut off, LINE by LINE)");
        points(NEAR_A_MILLION + "more 9999; times 50;", 500000);
        points(NEAR_A_MILLION + "times 9999; times 1;", 10000);
        points(NEAR_A_MILLION + "more 9999; more 1; times 99;", 990000);
        points(NEAR_A_MILLION + "times 200; points 3;", 3);
    }

    private static void noWrapAround() {
        Check.sentence("Term 2", "so many of a hundred of them, cut .. never above 1000000 (no wrap-around)");
        points(NEAR_A_MILLION + "times 2147;", 1000000);
        points(NEAR_A_MILLION + "times 2148;", 1000000);
        points(NEAR_A_MILLION + "times 4295;", 1000000);
        points(NEAR_A_MILLION + "times 4296;", 1000000);
        points(NEAR_A_MILLION + "times 8592;", 1000000);
        points(NEAR_A_MILLION + "more 9999; times 4295;", 1000000);
        points(NEAR_A_MILLION + "times 9999; times 9999; times 9999; times 9999;", 1000000);
    }

    private static void howManyPapers() {
        Check.sentence("Term 2", "papers: how many; sum: the POINTS so far; paper: whether it has that");
        for (int papers = 0; papers < 64; papers += 3) {
            String many = "when papers = " + Integer.bitCount(papers) + ": points 1;";
            points(many, 0, 0, 0, papers, 1);
        }
        points("when papers = 0: points 1;", 0, 0, 0, 0, 1);
        points("when papers = 6: points 1;", 0, 0, 0, 63, 1);
        points("when sum = 0: more 4; when sum = 4: more 5; when sum = 9: more 6;", 15);
        points(NEAR_A_MILLION + "when sum > 9999: points 2;", 2);
    }

    private static void feedComesBehind() {
        Check.sentence("Promise 3", "twenty bytes come behind it .. how many it has");
        ClaimsFund x = new ClaimsFund();
        for (int i = 1; i <= 20; i++) {
            Check.due("feed " + i, x.feed(-1, 0, Integer.MAX_VALUE, Integer.MIN_VALUE, i), 20 * i);
        }
        ClaimsFund y = new ClaimsFund();
        Check.tape(y, "point");
        Check.due("feed behind 5 bytes", y.feed(Check.four("s 40", 0), Check.four("; mo", 0), Check.four("re 2", 0),
            Check.four(";   ", 0), 0x20202020), 25);
        Check.due("grid()", y.grid(), 2);
        Check.due("points(0, 0, 0, 0)", y.points(0, 0, 0, 0), 42);
    }

    private static void feedHighestFirst() {
        Check.sentence("Promise 3", "of each number the highest first");
        for (int at = 0; at < 20; at++) {
            for (int bad : new int[] {0, 0x7f, 0x80, 0xff}) {
                int[] five = new int[5];
                for (int i = 0; i < 5; i++) {
                    int shift = 24 - 8 * (at % 4);
                    five[i] = i == at / 4 ? 0x20202020 & ~(0xff << shift) | bad << shift : 0x20202020;
                }
                ClaimsFund x = new ClaimsFund();
                x.feed(five[0], five[1], five[2], five[3], five[4]);
                x.grid();
                Check.due("fault(1) of byte " + bad + " at " + at, x.fault(1), at);
            }
        }
        ClaimsFund y = new ClaimsFund();
        y.feed(0x706f696e, 0x74732031, 0x3233343b, 0x6d6f7265, 0x20313b0a);
        Check.due("grid() of points 1234;more 1;", y.grid(), 2);
        Check.due("points(0, 0, 0, 0)", y.points(0, 0, 0, 0), 1235);
    }

    private static ClaimsFund full(int bytes) {
        ClaimsFund x = new ClaimsFund();
        Check.tape(x, "points" + " ".repeat(394));
        x.end(bytes);
        return x;
    }

    private static void feedBeyond400() {
        Check.sentence("Promise 3", "NONE, and nothing comes, if there would be more than 400");
        Check.due("feed behind 379", full(379).feed(0, 0, 0, 0, 0), 399);
        Check.due("feed behind 380", full(380).feed(0, 0, 0, 0, 0), 400);
        for (int bytes : new int[] {381, 390, 399, 400}) {
            ClaimsFund x = full(bytes);
            Check.due("feed behind " + bytes, x.feed(-1, -1, -1, -1, -1), -1);
            Check.due("feed again", x.feed(-1, -1, -1, -1, -1), -1);
            Check.due("end(" + (bytes + 1) + ")", x.end(bytes + 1), -1);
            Check.due("end(" + bytes + ")", x.end(bytes), bytes);
            Check.due("grid()", x.grid(), -1);
            Check.due("its place, the end of " + bytes, x.fault(1), bytes);
        }
        ClaimsFund y = full(400);
        y.feed(-1, -1, -1, -1, -1);
        y.end(380);
        Check.due("feed when there is room again", y.feed(0, 0, 0, 0, 0), 400);
        y.grid();
        Check.due("the place of the first 0", y.fault(1), 380);
    }

    private static void endCutsOff() {
        Check.sentence("Promise 4", "The tape has its first n bytes alone: n");
        for (int n = 0; n <= 20; n++) {
            ClaimsFund x = new ClaimsFund();
            x.feed(0x20202020, 0x20202020, 0x20202020, 0x20202020, 0x20202020);
            Check.due("end(" + n + ")", x.end(n), n);
            Check.due("end(" + n + ") again", x.end(n), n);
            Check.due("end(" + (n + 1) + ") then", x.end(n + 1), -1);
            Check.due("feed then", x.feed(-1, 0, 0, 0, 0), n + 20);
            x.grid();
            Check.due("the place of the first byte that came then", x.fault(1), n);
        }
        ClaimsFund y = new ClaimsFund();
        Check.due("end(0) of nothing", y.end(0), 0);
        Check.tape(y, "none;none;none;");
        Check.due("end(10)", y.end(10), 10);
        Check.due("grid()", y.grid(), 2);
    }

    private static void endOfTooMany() {
        Check.sentence("Promise 4", "NONE if it has not so many");
        ClaimsFund x = new ClaimsFund();
        Check.due("end(1) of nothing", x.end(1), -1);
        Check.tape(x, "none;none;");
        Check.due("end(11)", x.end(11), -1);
        Check.due("end(400)", x.end(400), -1);
        Check.due("end(greatest)", x.end(Integer.MAX_VALUE), -1);
        Check.due("end(10)", x.end(10), 10);
        Check.due("grid() of what stayed", x.grid(), 2);
        ClaimsFund y = full(400);
        Check.due("end(401)", y.end(401), -1);
        Check.due("end(400)", y.end(400), 400);
    }

    private static void endBelowZero() {
        Check.sentence("Promise 4", "NONE if .. n is below 0");
        ClaimsFund x = new ClaimsFund();
        Check.due("end(-1) of nothing", x.end(-1), -1);
        Check.tape(x, "none;none;");
        Check.due("end(-1)", x.end(-1), -1);
        Check.due("end(-10)", x.end(-10), -1);
        Check.due("end(least)", x.end(Integer.MIN_VALUE), -1);
        Check.due("grid() of what stayed", x.grid(), 2);
    }

    private static void gridTakesTheTape() {
        Check.sentence("Promise 5", "The tape is taken (and is empty then)");
        for (String text : new String[] {"points 5;", "points 5", "when paper 6: none;", lines(17)}) {
            ClaimsFund x = Check.withGrid(text);
            Check.due("end(1) behind grid() of " + text, x.end(1), -1);
            Check.due("end(0) behind grid() of " + text, x.end(0), 0);
            Check.due("feed behind grid() of " + text, x.feed(0, 0, 0, 0, 0), 20);
        }
        ClaimsFund y = full(400);
        y.grid();
        Check.due("feed behind a full tape", y.feed(0, 0, 0, 0, 0), 20);
    }

    private static void gridFromNowOn() {
        Check.sentence("Promise 5", "as THE GRID from now on");
        ClaimsFund x = Check.withGrid("more 1;".repeat(16));
        x.claim(0, 0, 0, 0, 0);
        x.claim(1, 0, 0, 0, 0);
        x.judge(1);
        Check.due("most by 16 lines", x.tell(0, 7), 16);
        Check.due("grid() of one line", Check.grid(x, "when paper 5: points 3;"), 1);
        Check.due("count(4)", x.count(4), 1);
        Check.due("points(0, 0, 0, 32)", x.points(0, 0, 0, 32), 3);
        Check.due("least of an open one", x.tell(0, 6), 0);
        Check.due("most of an open one", x.tell(0, 7), 3);
        Check.due("most of a judged one", x.tell(1, 7), 16);
        Check.due("grid() of none", x.grid(), 0);
        Check.due("most by no line", x.tell(0, 7), 0);
    }

    /** Of a text that was refused, or of one before, nothing stays in the next. */
    private static void gridOfItsTextAlone() {
        Check.sentence("Promise 5", "The tape is taken .. as THE GRID (nothing of another text)");
        for (String text : new String[] {"when kind=1 and kind=2", "none; when kind=1 and kind=2",
            FOUR + " and kind=2: none;", "when paper 7: none;", lines(17)}) {
            ClaimsFund x = Check.withGrid(text);
            Check.due("grid() behind " + text, Check.grid(x, "when years=3: points 5; when late=4: more 6;"), 2);
            Check.due("points(0, 3, 4, 0)", x.points(0, 3, 4, 0), 11);
            Check.due("points(0, 3, 0, 0)", x.points(0, 3, 0, 0), 5);
            Check.due("points(0, 0, 4, 0)", x.points(0, 0, 4, 0), 6);
        }
        ClaimsFund y = new ClaimsFund();
        for (int i = 0; i < 3; i++) {
            Check.due("grid() of 16 lines with tests", Check.grid(y, "more 1;".repeat(15) + FOUR + ":none;"), 16);
        }
        for (int i = 0; i < 3; i++) {
            Check.due("grid() of 16 lines without", Check.grid(y, "more 1;".repeat(16)), 16);
            Check.due("points(0, 0, 0, 0)", y.points(0, 0, 0, 0), 16);
        }
    }

    private static void gridCountsLines() {
        Check.sentence("Promise 5", "how many LINES");
        for (int n = 0; n <= 16; n++) {
            ClaimsFund x = Check.withGrid("none;none;");
            Check.due("grid() of " + n + " lines", Check.grid(x, lines(n)), n);
            Check.due("count(4) of " + n + " lines", x.count(4), n);
        }
        ClaimsFund y = new ClaimsFund();
        Check.due("grid() of 400 bytes", Check.grid(y, "points 1;".repeat(15) + " ".repeat(260) + "none;"), 16);
    }

    private static void gridWithAFault() {
        Check.sentence("Promise 5", "NONE: a FAULT");
        for (String text : new String[] {"points 99; x", "points 99; when paper 6: none;", "points 99;" + lines(16),
            "points 99;" + FOUR + " and kind=1: none;"}) {
            ClaimsFund x = Check.withGrid("points 5; when paper 1: more 2;");
            x.claim(0, 0, 0, 0, 0);
            Check.due("grid() of " + text, Check.grid(x, text), -1);
            Check.due("points(0, 0, 0, 2) by the grid before", x.points(0, 0, 0, 2), 7);
            Check.due("count(4)", x.count(4), 2);
            Check.due("least", x.tell(0, 6), 5);
            Check.due("most", x.tell(0, 7), 7);
            Check.due("judge(0)", x.judge(0), 5);
        }
    }

    /** Claim 0 of 10 points was paid half the fund; claim 1 is open, of 10 points at most. */
    private static ClaimsFund paidAllThatHolds() {
        ClaimsFund x = Check.withGrid("points 10;");
        x.claim(0, 0, 0, 0, 0);
        x.claim(1, 0, 0, 0, 0);
        x.judge(0);
        x.wave(100);
        return x;
    }

    private static void gridThatWouldNotHold() {
        Check.sentence("Promise 5", "-2: it would not HOLD");
        ClaimsFund x = paidAllThatHolds();
        String before = Check.told(x);
        Check.due("grid() of one point more", Check.grid(x, "points 11;"), -2);
        Check.unchanged("grid()", x, before);
        Check.due("grid() of one point more with all papers", Check.grid(x, "points 1; when papers=6: points 11;"), -2);
        Check.unchanged("grid()", x, before);
        Check.due("grid() of as many", Check.grid(x, "points 9; when papers=6: points 10;"), 2);
        Check.due("grid() of one point more than before", Check.grid(x, "points 11;"), -2);
        Check.due("points(0, 0, 0, 0)", x.points(0, 0, 0, 0), 9);
        Check.due("a fault is told before that", Check.grid(x, "points 11; x"), -1);
        Check.due("grid() of none", x.grid(), 0);
    }

    private static void gridBehindTheEnd() {
        Check.sentence("Promise 5", "-2: .. or THE END was (.. no text is read, FAULT 0)");
        ClaimsFund x = Check.withOneJudged(1000);
        x.finish();
        String before = Check.told(x);
        for (String text : new String[] {"points 10;", "points 5", "when paper 6: none;", lines(17), ""}) {
            Check.due("grid() of " + text, Check.grid(x, text), -2);
            Check.due("fault(0)", x.fault(0), 0);
            Check.due("fault(1)", x.fault(1), -1);
            Check.due("end(1)", x.end(1), -1);
        }
        Check.unchanged("grid()", x, before);
        ClaimsFund y = Check.withOneJudged(1000);
        Check.grid(y, "points 5");
        y.finish();
        Check.due("fault(0) of a text before the end", y.fault(0), 1);
        Check.due("grid() of nothing", y.grid(), -2);
        Check.due("fault(0) behind it", y.fault(0), 0);
        Check.due("fault(1) behind it", y.fault(1), -1);
    }

    private static void gridRefusedEmptiesTheTape() {
        Check.sentence("Promise 5", "the tape is empty then, too");
        ClaimsFund x = paidAllThatHolds();
        Check.due("grid()", Check.grid(x, "points 11;"), -2);
        Check.due("end(1)", x.end(1), -1);
        Check.due("end(0)", x.end(0), 0);
        x.judge(1);
        x.finish();
        Check.tape(x, "points 11;");
        Check.due("grid() behind the end", x.grid(), -2);
        Check.due("end(1)", x.end(1), -1);
        Check.due("feed", x.feed(0, 0, 0, 0, 0), 20);
    }

    private static void gridRefusedHasNoFault() {
        Check.sentence("Promise 5", "-2: it would not HOLD .. FAULT 0");
        ClaimsFund x = paidAllThatHolds();
        Check.due("a fault", Check.grid(x, "points 11"), -1);
        Check.due("fault(0)", x.fault(0), 1);
        Check.due("grid()", Check.grid(x, "points 11;"), -2);
        Check.due("fault(0) of -2", x.fault(0), 0);
        Check.due("fault(1) of -2", x.fault(1), -1);
    }

    private static void faultOfTheLatest() {
        Check.sentence("Promise 6", "Of the latest grid(), what 0: the FAULT .. 1: its place");
        ClaimsFund x = new ClaimsFund();
        String[] texts = {"x", "none; when paper 7: none;", lines(17), "", "none"};
        int[] faults = {1, 2, 3, 0, 1};
        int[] places = {0, 17, 80, -1, 4};
        for (int i = 0; i < texts.length; i++) {
            Check.grid(x, texts[i]);
            Check.due("fault(0) of " + texts[i], x.fault(0), faults[i]);
            Check.due("fault(1) of " + texts[i], x.fault(1), places[i]);
            Check.tape(x, "points 5; x");
            x.end(0);
            Check.due("fault(0) with another tape", x.fault(0), faults[i]);
            Check.due("fault(1) with another tape", x.fault(1), places[i]);
        }
    }

    private static void faultWithout() {
        Check.sentence("Promise 6", "0 without .. NONE without");
        ClaimsFund x = new ClaimsFund();
        Check.due("fault(0) before any grid()", x.fault(0), 0);
        Check.due("fault(1) before any grid()", x.fault(1), -1);
        Check.grid(x, "points");
        Check.grid(x, "points 1;");
        Check.due("fault(0) of a sound text", x.fault(0), 0);
        Check.due("fault(1) of a sound text", x.fault(1), -1);
    }

    private static void faultOfAnotherWhat() {
        Check.sentence("Promise 6", "NONE for another what");
        ClaimsFund x = Check.withGrid("none;none");
        Check.due("fault(0)", x.fault(0), 1);
        Check.due("fault(1)", x.fault(1), 9);
        for (int what : new int[] {-1, 2, 3, Integer.MIN_VALUE, Integer.MAX_VALUE}) {
            Check.due("fault(" + what + ")", x.fault(what), -1);
        }
    }

    private static void pointsOfOthers() {
        Check.sentence("Promise 12", "NONE for others");
        ClaimsFund x = Check.withGrid("points 5; when kind=3 and years=60 and late=999 and papers=6: points 6;");
        int[] most = {3, 60, 999, 63};
        Check.due("points of the least", x.points(0, 0, 0, 0), 5);
        Check.due("points of the greatest", x.points(3, 60, 999, 63), 6);
        for (int i = 0; i < 4; i++) {
            for (int wrong : new int[] {-1, most[i] + 1, Integer.MIN_VALUE, Integer.MAX_VALUE}) {
                int[] four = {1, 1, 1, 1};
                four[i] = wrong;
                Check.due("points with " + wrong + " as number " + i, x.points(four[0], four[1], four[2], four[3]), -1);
            }
            int[] four = {1, 1, 1, 1};
            four[i] = most[i];
            Check.due("points with the greatest number " + i, x.points(four[0], four[1], four[2], four[3]), 5);
        }
        Check.due("points without a grid", new ClaimsFund().points(3, 60, 999, 63), 0);
        Check.due("points of others without a grid", new ClaimsFund().points(4, 60, 999, 63), -1);
    }
}
