import java.util.ArrayList;
import java.util.Collections;
import java.util.Comparator;
import java.util.List;
import java.util.function.BooleanSupplier;
import java.util.regex.Matcher;
import java.util.regex.Pattern;

/**
 * The document once more, in the plainest way and another one than ClaimsFund's: nothing is kept that can
 * be worked out, and what might not hold is tried and taken back. FuzzTest compares the two.
 */
final class Model {
    private static final Pattern TOKEN = Pattern.compile("[a-z]+|[0-9]+|[^ \n]", Pattern.DOTALL);
    private static final String TEST = "n?(?:cs9|p9)";
    private static final Pattern TEXT = Pattern.compile("(?:(?:w" + TEST + "(?:a" + TEST + ")*:)?(?:v9|x);)*");

    /** A token with its place; the sort is one character, so that a text is a row of them. */
    private record Token(String text, int place, char sort) {
    }

    private record Lien(int rank, long owed, long[] got) {
    }

    private record Heir(int part, long[] got) {
    }

    private static final class Claim {
        int person;
        int kind;
        int years;
        int late;
        int papers;
        char state = 'o';
        int points;
        int fee;
        long paid;
        long lawyer;
        long self;
        List<Lien> liens = new ArrayList<>();
        List<Heir> heirs = new ArrayList<>();

        Claim copy() {
            Claim other = new Claim();
            other.person = person;
            other.kind = kind;
            other.years = years;
            other.late = late;
            other.papers = papers;
            other.state = state;
            other.points = points;
            other.fee = fee;
            other.paid = paid;
            other.lawyer = lawyer;
            other.self = self;
            for (Lien lien : liens) {
                other.liens.add(new Lien(lien.rank, lien.owed, lien.got.clone()));
            }
            for (Heir heir : heirs) {
                other.heirs.add(new Heir(heir.part, heir.got.clone()));
            }
            return other;
        }
    }

    private long fund = 1000;
    private String tape = "";
    private List<List<Token>> lines = new ArrayList<>();
    private int fault;
    private int place = -1;
    private List<Claim> claims = new ArrayList<>();
    private int waves;
    private boolean ended;
    private final Model[] images = new Model[3];

    private void take(Model other) {
        fund = other.fund;
        tape = other.tape;
        lines = other.lines;
        fault = other.fault;
        place = other.place;
        claims = new ArrayList<>();
        for (Claim claim : other.claims) {
            claims.add(claim.copy());
        }
        waves = other.waves;
        ended = other.ended;
    }

    private boolean tried(BooleanSupplier change) {
        Model before = new Model();
        before.take(this);
        if (change.getAsBoolean() && holds()) {
            return true;
        }
        take(before);
        return false;
    }

    private boolean holds() {
        for (Claim claim : claims) {
            if (claim.paid > worst(claim)) {
                return false;
            }
        }
        return true;
    }

    private Claim at(int number) {
        return number >= 0 && number < claims.size() ? claims.get(number) : null;
    }

    private int[] extremes(Claim claim) {
        if (claim.state != 'o') {
            int points = claim.state == 'j' ? claim.points : 0;
            return new int[] {points, points};
        }
        List<Integer> all = new ArrayList<>();
        for (int more = 0; more < 64; more++) {
            all.add(made(claim.kind, claim.years, claim.late, claim.papers | more));
        }
        return new int[] {Collections.min(all), Collections.max(all)};
    }

    private long all(int which) {
        long sum = 0;
        for (Claim claim : claims) {
            sum += extremes(claim)[which];
        }
        return sum;
    }

    private long worst(Claim claim) {
        long all = all(1);
        return all == 0 ? 0 : Math.multiplyExact(fund, (long) extremes(claim)[0]) / all;
    }

    private long paid() {
        return claims.stream().mapToLong(c -> c.paid).sum();
    }

    private List<Claim> in(char state) {
        return claims.stream().filter(c -> c.state == state).toList();
    }

    boolean fund(long coins) {
        if (coins < 1 || coins > 1_000_000_000_000L || paid() > 0 || ended) {
            return false;
        }
        fund = coins;
        return true;
    }

    int feed(int... five) {
        if (tape.length() + 20 > 400) {
            return -1;
        }
        for (int one : five) {
            for (int b = 3; b >= 0; b--) {
                tape += (char) (one >> 8 * b & 255);
            }
        }
        return tape.length();
    }

    int end(int n) {
        if (n < 0 || n > tape.length()) {
            return -1;
        }
        tape = tape.substring(0, n);
        return n;
    }

    private static char sort(String token) {
        if (token.matches("[0-9]{1,4}")) {
            return '9';
        }
        return switch (token) {
            case "when" -> 'w';
            case "and" -> 'a';
            case "not" -> 'n';
            case "kind", "years", "late", "papers", "sum" -> 'c';
            case "paper" -> 'p';
            case "<", ">", "=" -> 's';
            case "points", "more", "times" -> 'v';
            case "none" -> 'x';
            case ":" -> ':';
            case ";" -> ';';
            default -> '?';
        };
    }

    int grid() {
        String text = tape;
        tape = "";
        fault = 0;
        place = -1;
        if (ended) {
            return -2;
        }
        List<Token> tokens = new ArrayList<>();
        Matcher found = TOKEN.matcher(text);
        while (found.find()) {
            tokens.add(new Token(found.group(), found.start(), sort(found.group())));
        }
        unreadable(tokens, text.length());
        if (fault != 0) {
            return -1;
        }
        List<List<Token>> read = new ArrayList<>();
        List<Token> line = new ArrayList<>();
        for (Token token : tokens) {
            line.add(token);
            if (token.sort == ';') {
                read.add(line);
                line = new ArrayList<>();
            }
        }
        otherFaults(read);
        if (fault != 0) {
            return -1;
        }
        boolean kept = tried(() -> {
            lines = read;
            return true;
        });
        return kept ? read.size() : -2;
    }

    private void unreadable(List<Token> tokens, int end) {
        StringBuilder sorts = new StringBuilder();
        for (Token token : tokens) {
            sorts.append(token.sort);
            Matcher so = TEXT.matcher(sorts);
            if (!so.matches() && !so.hitEnd()) {
                fault = 1;
                place = token.place;
                return;
            }
        }
        if (!TEXT.matcher(sorts).matches()) {
            fault = 1;
            place = end;
        }
    }

    private void otherFaults(List<List<Token>> read) {
        List<int[]> faults = new ArrayList<>();
        for (int i = 0; i < read.size(); i++) {
            List<Token> line = read.get(i);
            if (i >= 16) {
                faults.add(new int[] {line.get(0).place, 3});
            }
            List<List<Token>> tests = tests(line);
            for (int t = 0; t < tests.size(); t++) {
                List<Token> test = tests.get(t);
                if (t >= 4) {
                    faults.add(new int[] {test.get(0).place, 3});
                }
                Token last = test.get(test.size() - 1);
                if (test.get(test.size() - 2).sort == 'p' && Integer.parseInt(last.text) > 5) {
                    faults.add(new int[] {last.place, 2});
                }
            }
        }
        faults.sort(Comparator.comparingInt(f -> f[0]));
        if (!faults.isEmpty()) {
            place = faults.get(0)[0];
            fault = faults.get(0)[1];
        }
    }

    private static List<List<Token>> tests(List<Token> line) {
        List<List<Token>> all = new ArrayList<>();
        for (Token token : line) {
            if (token.sort == ':') {
                return all;
            }
            if (token.sort == 'w' || token.sort == 'a') {
                all.add(new ArrayList<>());
            } else if (!all.isEmpty()) {
                all.get(all.size() - 1).add(token);
            }
        }
        return List.of();
    }

    private static boolean met(List<Token> test, int kind, int years, int late, int papers, int sum) {
        if (test.get(0).sort == 'n') {
            return !met(test.subList(1, test.size()), kind, years, late, papers, sum);
        }
        int number = Integer.parseInt(test.get(test.size() - 1).text);
        if (test.get(0).sort == 'p') {
            return (papers & 1 << number) != 0;
        }
        int seen = switch (test.get(0).text) {
            case "kind" -> kind;
            case "years" -> years;
            case "late" -> late;
            case "papers" -> Integer.bitCount(papers);
            default -> sum;
        };
        return switch (test.get(1).text) {
            case "<" -> seen < number;
            case ">" -> seen > number;
            default -> seen == number;
        };
    }

    private int made(int kind, int years, int late, int papers) {
        long sum = 0;
        for (List<Token> line : lines) {
            boolean all = true;
            for (List<Token> test : tests(line)) {
                all &= met(test, kind, years, late, papers, (int) sum);
            }
            if (!all) {
                continue;
            }
            if (line.get(line.size() - 2).sort == 'x') {
                return 0;
            }
            long number = Long.parseLong(line.get(line.size() - 2).text);
            sum = switch (line.get(line.size() - 3).text) {
                case "points" -> number;
                case "more" -> sum + number;
                default -> sum * number / 100;
            };
            sum = Math.min(sum, 1_000_000);
        }
        return (int) sum;
    }

    int fault(int what) {
        return what == 0 ? fault : what == 1 ? place : -1;
    }

    private static boolean within(int number, int least, int most) {
        return least <= number && number <= most;
    }

    int claim(int person, int kind, int years, int late, int papers) {
        boolean sound = within(person, 0, 99) && points(kind, years, late, papers) >= 0;
        if (!sound || ended || claims.size() == 16) {
            return -1;
        }
        boolean kept = tried(() -> {
            Claim claim = new Claim();
            claim.person = person;
            claim.kind = kind;
            claim.years = years;
            claim.late = late;
            claim.papers = papers;
            return claims.add(claim);
        });
        return kept ? claims.size() - 1 : -1;
    }

    private boolean lacking(int claim, int paper) {
        return at(claim) != null && at(claim).state == 'o' && within(paper, 0, 5)
            && (at(claim).papers & 1 << paper) == 0;
    }

    boolean paper(int claim, int paper) {
        if (ended || !lacking(claim, paper)) {
            return false;
        }
        at(claim).papers += 1 << paper;
        return true;
    }

    private boolean twins(Claim one, Claim other) {
        return one != other && one.state != 'x' && other.state != 'x' && one.person == other.person;
    }

    int judge(int claim) {
        Claim one = at(claim);
        if (ended || one == null || one.state != 'o' || in('j').stream().anyMatch(c -> twins(one, c))) {
            return -1;
        }
        one.points = made(one.kind, one.years, one.late, one.papers);
        one.state = 'j';
        return one.points;
    }

    boolean appeal(int claim, int points) {
        if (ended || at(claim) == null || at(claim).state != 'j' || !within(points, 0, 1_000_000)) {
            return false;
        }
        return tried(() -> {
            at(claim).points = points;
            return true;
        });
    }

    boolean out(int claim, boolean out) {
        if (ended || at(claim) == null || (at(claim).state == 'x') == out || out && at(claim).paid > 0) {
            return false;
        }
        return tried(() -> {
            at(claim).state = out ? 'x' : 'o';
            return true;
        });
    }

    int points(int kind, int years, int late, int papers) {
        boolean sound = within(kind, 0, 3) && within(years, 0, 60) && within(late, 0, 999) && within(papers, 0, 63);
        return sound ? made(kind, years, late, papers) : -1;
    }

    int lacks(int claim, int paper) {
        if (!lacking(claim, paper)) {
            return -10000000;
        }
        Claim one = at(claim);
        return made(one.kind, one.years, one.late, one.papers + (1 << paper))
            - made(one.kind, one.years, one.late, one.papers);
    }

    int tell(int claim, int what) {
        Claim one = at(claim);
        if (one == null || !within(what, 0, 11)) {
            return -1;
        }
        int twins = (int) claims.stream().filter(c -> twins(one, c)).count();
        int[] told = {one.person, one.kind, one.years, one.late, one.papers, "ojx".indexOf(one.state),
            extremes(one)[0], extremes(one)[1], twins, one.fee, one.liens.size(), one.heirs.size()};
        return told[what];
    }

    long money(int claim, int what) {
        Claim one = at(claim);
        if (one == null) {
            return -1;
        }
        if (what >= 10 && what - 10 < one.liens.size()) {
            return one.liens.get(what - 10).got[0];
        }
        if (what >= 20 && what - 20 < one.heirs.size()) {
            return one.heirs.get(what - 20).got[0];
        }
        return switch (what) {
            case 0 -> worst(one);
            case 1 -> one.paid;
            case 2 -> one.lawyer;
            case 3 -> one.liens.stream().mapToLong(l -> l.got[0]).sum();
            case 4 -> one.heirs.stream().mapToLong(h -> h.got[0]).sum();
            case 5 -> one.self;
            default -> -1;
        };
    }

    boolean fee(int claim, int percent) {
        if (ended || at(claim) == null || !within(percent, 0, 40)) {
            return false;
        }
        at(claim).fee = percent;
        return true;
    }

    int lien(int claim, int rank, long coins) {
        boolean sound = within(rank, 0, 9) && coins >= 1 && coins <= 1_000_000_000L;
        if (ended || at(claim) == null || !sound || at(claim).liens.size() == 4) {
            return -1;
        }
        at(claim).liens.add(new Lien(rank, coins, new long[1]));
        return at(claim).liens.size() - 1;
    }

    int heir(int claim, int part) {
        if (ended || at(claim) == null || !within(part, 1, 9) || at(claim).heirs.size() == 4) {
            return -1;
        }
        at(claim).heirs.add(new Heir(part, new long[1]));
        return at(claim).heirs.size() - 1;
    }

    private static void pay(Claim claim, long coins) {
        claim.paid += coins;
        long fee = coins * claim.fee / 100;
        claim.lawyer += fee;
        long left = coins - fee;
        List<Lien> byRank = new ArrayList<>(claim.liens);
        byRank.sort(Comparator.comparingInt(Lien::rank));
        for (Lien lien : byRank) {
            long got = Math.min(left, lien.owed - lien.got[0]);
            lien.got[0] += got;
            left -= got;
        }
        if (claim.heirs.isEmpty()) {
            claim.self += left;
            return;
        }
        long parts = claim.heirs.stream().mapToLong(Heir::part).sum();
        long over = left;
        for (Heir heir : claim.heirs) {
            heir.got[0] += left * heir.part / parts;
            over -= left * heir.part / parts;
        }
        claim.heirs.get(0).got[0] += over;
    }

    long wave(int percent) {
        if (ended || !within(percent, 1, 100)) {
            return -1;
        }
        long before = paid();
        for (Claim claim : in('j')) {
            long due = worst(claim) * percent / 100 - claim.paid;
            if (due > 0) {
                pay(claim, due);
            }
        }
        waves++;
        return paid() - before;
    }

    long finish() {
        long all = all(1);
        if (ended || !in('o').isEmpty() || all == 0) {
            return -1;
        }
        long before = paid();
        for (Claim claim : in('j')) {
            long due = fund * claim.points / all - claim.paid;
            if (due > 0) {
                pay(claim, due);
            }
        }
        List<Claim> byRest = new ArrayList<>(in('j'));
        byRest.sort(Comparator.comparingLong((Claim c) -> -(fund * c.points % all)));
        long left = fund - paid();
        for (int i = 0; i < left; i++) {
            pay(byRest.get(i), 1);
        }
        ended = true;
        return paid() - before;
    }

    long sum(int what) {
        return switch (what) {
            case 0 -> fund;
            case 1 -> paid();
            case 2 -> all(1);
            case 3 -> all(0);
            default -> -1;
        };
    }

    int count(int what) {
        return switch (what) {
            case 0 -> claims.size();
            case 1 -> in('o').size();
            case 2 -> in('j').size();
            case 3 -> in('x').size();
            case 4 -> lines.size();
            case 5 -> waves;
            case 6 -> ended ? 1 : 0;
            default -> -1;
        };
    }

    boolean image(int k) {
        if (!within(k, 0, 2)) {
            return false;
        }
        images[k] = new Model();
        images[k].take(this);
        return true;
    }

    boolean again(int k) {
        if (!within(k, 0, 2) || images[k] == null) {
            return false;
        }
        take(images[k]);
        return true;
    }
}
