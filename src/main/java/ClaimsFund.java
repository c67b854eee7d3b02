/**
 * A settlement of one sum for many who were harmed unlike. Each claim's points come from a grid that is
 * told as a text; waves pay no claim more than comes to it at the worst; the end parts the whole sum.
 */
public final class ClaimsFund {
    public static final int NONE = -1;

    private static final int REFUSED = -2;
    private static final int NO_DIFFERENCE = -10000000;

    private static final long FIRST_FUND = 1000L;
    private static final long MOST_FUND = 1000000000000L;
    private static final long MOST_LIEN = 1000000000L;
    private static final int MOST_POINTS = 1000000;
    private static final int MOST_PERSON = 99;
    private static final int MOST_KIND = 3;
    private static final int MOST_YEARS = 60;
    private static final int MOST_LATE = 999;
    private static final int MOST_RANK = 9;
    private static final int MOST_PART = 9;
    private static final int MOST_FEE = 40;

    private static final int PAPERS = 6;
    private static final int EVERY_PAPER = (1 << PAPERS) - 1;
    private static final int TAPE = 400;
    private static final int FEED = 20;
    private static final int DIGITS = 4;
    private static final int LINES = 16;
    private static final int TESTS = 4;
    private static final int CLAIMS = 16;
    private static final int LIENS = 4;
    private static final int HEIRS = 4;
    private static final int IMAGES = 3;

    // What a claim is; FREE is a row that no claim has yet.
    private static final int OPEN = 0;
    private static final int JUDGED = 1;
    private static final int OUT = 2;
    private static final int FREE = 3;

    // Kinds of tokens; a sign's kind is its byte, and these are below all signs.
    private static final int END = 0;
    private static final int WORD = 1;
    private static final int NUMBER = 2;
    private static final int BAD = 3;

    // What a test looks at.
    private static final int BY_KIND = 0;
    private static final int BY_YEARS = 1;
    private static final int BY_LATE = 2;
    private static final int BY_PAPERS = 3;
    private static final int BY_SUM = 4;
    private static final int BY_PAPER = 5;

    // What a line does.
    private static final int SET = 0;
    private static final int ADD = 1;
    private static final int SCALE = 2;
    private static final int STOP = 3;

    private static final int UNREADABLE = 1;
    private static final int NO_SUCH_PAPER = 2;
    private static final int TOO_MANY = 3;

    private final Book now = new Book();
    private final Book[] images = new Book[IMAGES];
    // A new text is read into this one, so that a refused text leaves the grid in force untouched.
    private Grid spare = new Grid();

    public ClaimsFund() {
    }

    public boolean fund(long coins) {
        if (now.ended || coins < 1 || coins > MOST_FUND || now.paidInAll() > 0) {
            return false;
        }
        now.coins = coins;
        return true;
    }

    public int feed(int a, int b, int c, int d, int e) {
        if (now.fed > TAPE - FEED) {
            return NONE;
        }
        now.addBytes(a);
        now.addBytes(b);
        now.addBytes(c);
        now.addBytes(d);
        now.addBytes(e);
        return now.fed;
    }

    public int end(int n) {
        if (n < 0 || n > now.fed) {
            return NONE;
        }
        now.fed = n;
        return n;
    }

    public int grid() {
        int length = now.fed;
        now.fed = 0;
        now.setFault(0, NONE);
        if (now.ended) {
            return REFUSED;
        }
        Reader reader = new Reader(now.tape, length, spare);
        reader.read();
        if (reader.fault != 0) {
            now.setFault(reader.fault, reader.place);
            return NONE;
        }
        Grid before = now.rules;
        now.useRules(spare);
        if (!now.holds()) {
            now.useRules(before);
            return REFUSED;
        }
        spare = before;
        return now.rules.lines;
    }

    public int fault(int what) {
        if (what == 0) {
            return now.fault;
        }
        return what == 1 ? now.place : NONE;
    }

    public int claim(int person, int kind, int years, int late, int papers) {
        if (now.ended || person < 0 || person > MOST_PERSON || !areFacts(kind, years, late, papers)) {
            return NONE;
        }
        return now.admit(person, kind, years, late, papers);
    }

    public boolean paper(int claim, int paper) {
        Claim one = now.claimAt(claim);
        if (now.ended || one == null || !one.mayBring(paper)) {
            return false;
        }
        one.papers |= 1 << paper;
        one.measure(now.rules);
        return true;
    }

    public int judge(int claim) {
        Claim one = now.claimAt(claim);
        if (now.ended || one == null || one.state != OPEN || now.hasJudgedTwin(one)) {
            return NONE;
        }
        int points = one.pointsWith(now.rules, one.papers);
        one.settle(JUDGED, points);
        return points;
    }

    public boolean appeal(int claim, int points) {
        Claim one = now.claimAt(claim);
        if (now.ended || one == null || one.state != JUDGED || points < 0 || points > MOST_POINTS) {
            return false;
        }
        int before = one.most;
        one.settle(JUDGED, points);
        if (!now.holds()) {
            one.settle(JUDGED, before);
            return false;
        }
        return true;
    }

    public boolean out(int claim, boolean out) {
        Claim one = now.claimAt(claim);
        if (now.ended || one == null) {
            return false;
        }
        return out ? now.sendOut(one) : now.takeBack(one);
    }

    public int points(int kind, int years, int late, int papers) {
        return areFacts(kind, years, late, papers) ? now.rules.pointsFor(kind, years, late, papers) : NONE;
    }

    public int lacks(int claim, int paper) {
        Claim one = now.claimAt(claim);
        if (one == null || !one.mayBring(paper)) {
            return NO_DIFFERENCE;
        }
        return one.pointsWith(now.rules, one.papers | 1 << paper) - one.pointsWith(now.rules, one.papers);
    }

    public int tell(int claim, int what) {
        Claim one = now.claimAt(claim);
        if (one == null) {
            return NONE;
        }
        switch (what) {
            case 0: return one.person;
            case 1: return one.kind;
            case 2: return one.years;
            case 3: return one.late;
            case 4: return one.papers;
            case 5: return one.state;
            case 6: return one.least;
            case 7: return one.most;
            case 8: return now.twinsOf(one);
            case 9: return one.purse.percent;
            case 10: return one.purse.liens;
            case 11: return one.purse.heirs;
            default: return NONE;
        }
    }

    public long money(int claim, int what) {
        Claim one = now.claimAt(claim);
        if (one == null) {
            return NONE;
        }
        return what == 0 ? now.worstOf(one) : one.purse.coinsOf(what);
    }

    public boolean fee(int claim, int percent) {
        Claim one = now.claimAt(claim);
        if (now.ended || one == null || percent < 0 || percent > MOST_FEE) {
            return false;
        }
        one.purse.percent = percent;
        return true;
    }

    public int lien(int claim, int rank, long coins) {
        Claim one = now.claimAt(claim);
        boolean sound = rank >= 0 && rank <= MOST_RANK && coins >= 1 && coins <= MOST_LIEN;
        if (now.ended || one == null || !sound) {
            return NONE;
        }
        return one.purse.addLien(rank, coins);
    }

    public int heir(int claim, int part) {
        Claim one = now.claimAt(claim);
        if (now.ended || one == null || part < 1 || part > MOST_PART) {
            return NONE;
        }
        return one.purse.addHeir(part);
    }

    public long wave(int percent) {
        if (now.ended || percent < 1 || percent > 100) {
            return NONE;
        }
        return now.payWave(percent);
    }

    public long finish() {
        if (now.ended || now.inState(OPEN) > 0) {
            return NONE;
        }
        return now.payAll();
    }

    public long sum(int what) {
        switch (what) {
            case 0: return now.coins;
            case 1: return now.paidInAll();
            case 2: return now.mostInAll();
            case 3: return now.leastInAll();
            default: return NONE;
        }
    }

    public int count(int what) {
        switch (what) {
            case 0: return now.taken;
            case 1: return now.inState(OPEN);
            case 2: return now.inState(JUDGED);
            case 3: return now.inState(OUT);
            case 4: return now.rules.lines;
            case 5: return now.waves;
            case 6: return now.ended ? 1 : 0;
            default: return NONE;
        }
    }

    public boolean image(int k) {
        if (k < 0 || k >= IMAGES) {
            return false;
        }
        Book kept = images[k];
        if (kept == null) {
            kept = new Book();
            images[k] = kept;
        }
        kept.copyFrom(now);
        return true;
    }

    public boolean again(int k) {
        if (k < 0 || k >= IMAGES) {
            return false;
        }
        Book kept = images[k];
        if (kept == null) {
            return false;
        }
        now.copyFrom(kept);
        return true;
    }

    private static boolean areFacts(int kind, int years, int late, int papers) {
        return kind >= 0 && kind <= MOST_KIND && years >= 0 && years <= MOST_YEARS
            && late >= 0 && late <= MOST_LATE && papers >= 0 && papers <= EVERY_PAPER;
    }

    /** All that was told, so that an image is one copy of it. */
    private static final class Book {
        long coins = FIRST_FUND;
        final byte[] tape = new byte[TAPE];
        int fed;
        Grid rules = new Grid();
        int fault;
        int place = NONE;
        final Claim[] claims = new Claim[CLAIMS];
        int taken;
        int waves;
        boolean ended;

        Book() {
            for (int i = 0; i < CLAIMS; i++) {
                claims[i] = new Claim();
            }
        }

        void copyFrom(Book other) {
            coins = other.coins;
            System.arraycopy(other.tape, 0, tape, 0, TAPE);
            fed = other.fed;
            rules.copyFrom(other.rules);
            fault = other.fault;
            place = other.place;
            for (int i = 0; i < CLAIMS; i++) {
                claims[i].copyFrom(other.claims[i]);
            }
            taken = other.taken;
            waves = other.waves;
            ended = other.ended;
        }

        void addBytes(int four) {
            for (int shift = 24; shift >= 0 && fed < TAPE; shift -= 8) {
                tape[fed] = (byte) (four >>> shift);
                fed++;
            }
        }

        void setFault(int newFault, int newPlace) {
            fault = newFault;
            place = newPlace;
        }

        void useRules(Grid newRules) {
            rules = newRules;
            for (Claim one : claims) {
                one.measure(rules);
            }
        }

        Claim claimAt(int number) {
            return number < 0 || number >= taken || number >= CLAIMS ? null : claims[number];
        }

        int admit(int person, int kind, int years, int late, int papers) {
            if (taken >= CLAIMS) {
                return NONE;
            }
            Claim one = claims[taken];
            one.begin(person, kind, years, late, papers);
            one.measure(rules);
            if (!holds()) {
                one.settle(FREE, 0);
                return NONE;
            }
            taken++;
            return taken - 1;
        }

        /** Needs no look at what holds: the others' worst only rises when points go. */
        boolean sendOut(Claim one) {
            if (one.state == OUT || one.purse.paid > 0) {
                return false;
            }
            one.settle(OUT, 0);
            return true;
        }

        boolean takeBack(Claim one) {
            if (one.state != OUT) {
                return false;
            }
            one.state = OPEN;
            one.measure(rules);
            if (!holds()) {
                one.settle(OUT, 0);
                return false;
            }
            return true;
        }

        int twinsOf(Claim one) {
            int twins = 0;
            for (Claim other : claims) {
                if (areTwins(one, other)) {
                    twins++;
                }
            }
            return twins;
        }

        boolean hasJudgedTwin(Claim one) {
            for (Claim other : claims) {
                if (other.state == JUDGED && areTwins(one, other)) {
                    return true;
                }
            }
            return false;
        }

        private static boolean areTwins(Claim one, Claim other) {
            return one != other && one.isIn() && other.isIn() && one.person == other.person;
        }

        int inState(int state) {
            int found = 0;
            for (Claim one : claims) {
                if (one.state == state) {
                    found++;
                }
            }
            return found;
        }

        long mostInAll() {
            long all = 0;
            for (Claim one : claims) {
                all += one.most;
            }
            return all;
        }

        long leastInAll() {
            long all = 0;
            for (Claim one : claims) {
                all += one.least;
            }
            return all;
        }

        long paidInAll() {
            long all = 0;
            for (Claim one : claims) {
                all += one.purse.paid;
            }
            return all;
        }

        long worstOf(Claim one) {
            return shareOf(one.least, mostInAll());
        }

        private long shareOf(int points, long all) {
            return all > 0 ? coins * points / all : 0;
        }

        private long restOf(int points, long all) {
            return all > 0 ? coins * points % all : 0;
        }

        boolean holds() {
            long all = mostInAll();
            for (Claim one : claims) {
                if (one.purse.paid > shareOf(one.least, all)) {
                    return false;
                }
            }
            return true;
        }

        long payWave(int percent) {
            long before = paidInAll();
            long all = mostInAll();
            for (Claim one : claims) {
                if (one.state == JUDGED) {
                    one.purse.payUpTo(shareOf(one.least, all) * percent / 100);
                }
            }
            waves++;
            return paidInAll() - before;
        }

        long payAll() {
            long all = mostInAll();
            if (all == 0) {
                return NONE;
            }
            long before = paidInAll();
            for (Claim one : claims) {
                if (one.state == JUDGED) {
                    one.purse.payUpTo(shareOf(one.most, all));
                }
            }
            payRests(all);
            ended = true;
            return paidInAll() - before;
        }

        /** One coin a claim is enough: fewer coins are left than claims have a rest. */
        private void payRests(long all) {
            long left = coins - paidInAll();
            int served = 0;
            for (int i = 0; i < CLAIMS && i < left; i++) {
                int next = greatestRest(all, served);
                if (next < 0 || next >= CLAIMS) {
                    return;
                }
                served |= 1 << next;
                claims[next].purse.pay(1);
            }
        }

        private int greatestRest(long all, int served) {
            int found = NONE;
            long greatest = -1;
            for (int i = 0; i < CLAIMS; i++) {
                Claim one = claims[i];
                long rest = restOf(one.most, all);
                if (one.state == JUDGED && (served >> i & 1) == 0 && rest > greatest) {
                    found = i;
                    greatest = rest;
                }
            }
            return found;
        }
    }

    /** One claim; its least and most are kept, because every look at what holds asks for all of them. */
    private static final class Claim {
        int person;
        int kind;
        int years;
        int late;
        int papers;
        int state = FREE;
        int least;
        int most;
        final Purse purse = new Purse();

        void copyFrom(Claim other) {
            person = other.person;
            kind = other.kind;
            years = other.years;
            late = other.late;
            papers = other.papers;
            state = other.state;
            least = other.least;
            most = other.most;
            purse.copyFrom(other.purse);
        }

        void begin(int newPerson, int newKind, int newYears, int newLate, int newPapers) {
            person = newPerson;
            kind = newKind;
            years = newYears;
            late = newLate;
            papers = newPapers;
            state = OPEN;
        }

        boolean isIn() {
            return state == OPEN || state == JUDGED;
        }

        boolean mayBring(int paper) {
            return state == OPEN && paper >= 0 && paper < PAPERS && (papers >> paper & 1) == 0;
        }

        void settle(int newState, int newPoints) {
            state = newState;
            least = newPoints;
            most = newPoints;
        }

        int pointsWith(Grid rules, int somePapers) {
            return rules.pointsFor(kind, years, late, somePapers);
        }

        /** Only an open claim's points are still to come; the others keep what they have. */
        void measure(Grid rules) {
            if (state != OPEN) {
                return;
            }
            least = MOST_POINTS;
            most = 0;
            for (int some = papers; some <= EVERY_PAPER; some++) {
                if ((some & papers) == papers) {
                    int points = rules.pointsFor(kind, years, late, some);
                    least = Math.min(least, points);
                    most = Math.max(most, points);
                }
            }
        }
    }

    /**
     * What a claim was paid, and who got it. Claims, liens and heirs go by images alone, which copy whole
     * rows: so a row that none has yet is always as new, and nobody needs to empty it.
     */
    private static final class Purse {
        int percent;
        int liens;
        int heirs;
        long paid;
        long lawyer;
        long self;
        final int[] rank = new int[LIENS];
        final long[] owed = new long[LIENS];
        final long[] lienGot = new long[LIENS];
        final int[] part = new int[HEIRS];
        final long[] heirGot = new long[HEIRS];

        void copyFrom(Purse other) {
            percent = other.percent;
            liens = other.liens;
            heirs = other.heirs;
            paid = other.paid;
            lawyer = other.lawyer;
            self = other.self;
            System.arraycopy(other.rank, 0, rank, 0, LIENS);
            System.arraycopy(other.owed, 0, owed, 0, LIENS);
            System.arraycopy(other.lienGot, 0, lienGot, 0, LIENS);
            System.arraycopy(other.part, 0, part, 0, HEIRS);
            System.arraycopy(other.heirGot, 0, heirGot, 0, HEIRS);
        }

        int addLien(int newRank, long newOwed) {
            if (liens >= LIENS) {
                return NONE;
            }
            rank[liens] = newRank;
            owed[liens] = newOwed;
            liens++;
            return liens - 1;
        }

        int addHeir(int newPart) {
            if (heirs >= HEIRS) {
                return NONE;
            }
            part[heirs] = newPart;
            heirs++;
            return heirs - 1;
        }

        long coinsOf(int what) {
            if (what >= 10 && what < 10 + LIENS) {
                return what - 10 < liens ? lienGot[what - 10] : NONE;
            }
            if (what >= 20 && what < 20 + HEIRS) {
                return what - 20 < heirs ? heirGot[what - 20] : NONE;
            }
            switch (what) {
                case 1: return paid;
                case 2: return lawyer;
                case 3: return lienCoins();
                case 4: return heirCoins();
                case 5: return self;
                default: return NONE;
            }
        }

        private long lienCoins() {
            long all = 0;
            for (int i = 0; i < liens && i < LIENS; i++) {
                all += lienGot[i];
            }
            return all;
        }

        private long heirCoins() {
            long all = 0;
            for (int i = 0; i < heirs && i < HEIRS; i++) {
                all += heirGot[i];
            }
            return all;
        }

        void payUpTo(long due) {
            if (due > paid) {
                pay(due - paid);
            }
        }

        void pay(long coins) {
            paid += coins;
            long forLawyer = coins * percent / 100;
            lawyer += forLawyer;
            payHeirs(payLiens(coins - forLawyer));
        }

        private long payLiens(long coins) {
            long left = coins;
            for (int turn = 0; turn <= MOST_RANK; turn++) {
                for (int i = 0; i < liens && i < LIENS; i++) {
                    if (rank[i] == turn) {
                        long got = Math.min(left, owed[i] - lienGot[i]);
                        lienGot[i] += got;
                        left -= got;
                    }
                }
            }
            return left;
        }

        private void payHeirs(long coins) {
            int parts = allParts();
            if (parts == 0) {
                self += coins;
                return;
            }
            long left = coins;
            for (int i = 0; i < heirs && i < HEIRS; i++) {
                long got = coins * part[i] / parts;
                heirGot[i] += got;
                left -= got;
            }
            heirGot[0] += left;
        }

        private int allParts() {
            int all = 0;
            for (int i = 0; i < heirs && i < HEIRS; i++) {
                all += part[i];
            }
            return all;
        }
    }

    /** The lines of a text; each line has its own row of tests. */
    private static final class Grid {
        int lines;
        final int[] act = new int[LINES];
        final int[] amount = new int[LINES];
        final int[] tests = new int[LINES];
        final int[] subject = new int[LINES * TESTS];
        final int[] sign = new int[LINES * TESTS];
        final int[] number = new int[LINES * TESTS];
        final boolean[] not = new boolean[LINES * TESTS];

        void empty() {
            lines = 0;
            tests[0] = 0;
        }

        void copyFrom(Grid other) {
            lines = other.lines;
            System.arraycopy(other.act, 0, act, 0, LINES);
            System.arraycopy(other.amount, 0, amount, 0, LINES);
            System.arraycopy(other.tests, 0, tests, 0, LINES);
            System.arraycopy(other.subject, 0, subject, 0, LINES * TESTS);
            System.arraycopy(other.sign, 0, sign, 0, LINES * TESTS);
            System.arraycopy(other.number, 0, number, 0, LINES * TESTS);
            System.arraycopy(other.not, 0, not, 0, LINES * TESTS);
        }

        /** One too many is dropped here: the reader has told it as a fault, and nobody uses this grid. */
        void addTest(int newSubject, int newSign, int newNumber, boolean newNot) {
            if (lines >= LINES || tests[lines] >= TESTS) {
                return;
            }
            int at = lines * TESTS + tests[lines];
            subject[at] = newSubject;
            sign[at] = newSign;
            number[at] = newNumber;
            not[at] = newNot;
            tests[lines]++;
        }

        void endLine(int newAct, int newAmount) {
            if (lines >= LINES) {
                return;
            }
            act[lines] = newAct;
            amount[lines] = newAmount;
            lines++;
            if (lines < LINES) {
                tests[lines] = 0;
            }
        }

        int pointsFor(int kind, int years, int late, int papers) {
            int points = 0;
            for (int line = 0; line < lines && line < LINES; line++) {
                if (!lineHolds(line, kind, years, late, papers, points)) {
                    continue;
                }
                if (act[line] == STOP) {
                    return 0;
                }
                points = pointsAfter(line, points);
            }
            return points;
        }

        private int pointsAfter(int line, int points) {
            long after = amount[line];
            if (act[line] == ADD) {
                after = points + after;
            } else if (act[line] == SCALE) {
                after = points * after / 100;
            }
            return (int) Math.min(after, MOST_POINTS);
        }

        private boolean lineHolds(int line, int kind, int years, int late, int papers, int points) {
            for (int i = 0; i < tests[line] && i < TESTS; i++) {
                int at = line * TESTS + i;
                int seen = seenBy(subject[at], kind, years, late, papers, points);
                boolean met = subject[at] == BY_PAPER ? (papers >> number[at] & 1) == 1
                    : compares(seen, sign[at], number[at]);
                if (met == not[at]) {
                    return false;
                }
            }
            return true;
        }

        private static int seenBy(int subject, int kind, int years, int late, int papers, int points) {
            switch (subject) {
                case BY_KIND: return kind;
                case BY_YEARS: return years;
                case BY_LATE: return late;
                case BY_PAPERS: return Integer.bitCount(papers);
                default: return points;
            }
        }

        private static boolean compares(int seen, int sign, int number) {
            if (sign == '<') {
                return seen < number;
            }
            return sign == '>' ? seen > number : seen == number;
        }
    }

    /** Reads a text token by token into a grid; the token at hand is the first that is not taken yet. */
    private static final class Reader {
        private final byte[] text;
        private final int length;
        private final Grid grid;
        private int at;
        private int after;
        private int kind;
        private int fault;
        private int place = NONE;

        Reader(byte[] text, int length, Grid grid) {
            this.text = text;
            this.length = length;
            this.grid = grid;
        }

        void read() {
            grid.empty();
            advance();
            for (int line = 0; line < length && kind != END; line++) {
                if (line >= LINES) {
                    note(TOO_MANY);
                }
                if (!readLine()) {
                    // This fault goes before the others, however early they stand.
                    fault = UNREADABLE;
                    place = at;
                    return;
                }
            }
        }

        private void note(int newFault) {
            if (fault == 0) {
                fault = newFault;
                place = at;
            }
        }

        private boolean readLine() {
            if (takeWord("when")) {
                int tests = 0;
                do {
                    if (tests >= TESTS) {
                        note(TOO_MANY);
                    }
                    if (!readTest()) {
                        return false;
                    }
                    tests++;
                } while (tests < length && takeWord("and"));
                if (kind != ':') {
                    return false;
                }
                advance();
            }
            return readAct();
        }

        private boolean readTest() {
            boolean not = takeWord("not");
            int subject = subjectAtHand();
            if (subject == NONE) {
                return false;
            }
            advance();
            int sign = 0;
            if (subject != BY_PAPER) {
                if (kind != '<' && kind != '>' && kind != '=') {
                    return false;
                }
                sign = kind;
                advance();
            }
            if (kind != NUMBER) {
                return false;
            }
            int number = numberAtHand();
            if (subject == BY_PAPER && number >= PAPERS) {
                note(NO_SUCH_PAPER);
            }
            grid.addTest(subject, sign, number, not);
            advance();
            return true;
        }

        private boolean readAct() {
            int act = actAtHand();
            if (act == NONE) {
                return false;
            }
            advance();
            int amount = 0;
            if (act != STOP) {
                if (kind != NUMBER) {
                    return false;
                }
                amount = numberAtHand();
                advance();
            }
            if (kind != ';') {
                return false;
            }
            advance();
            grid.endLine(act, amount);
            return true;
        }

        private int subjectAtHand() {
            if (isWord("kind")) {
                return BY_KIND;
            }
            if (isWord("years")) {
                return BY_YEARS;
            }
            if (isWord("late")) {
                return BY_LATE;
            }
            if (isWord("papers")) {
                return BY_PAPERS;
            }
            if (isWord("sum")) {
                return BY_SUM;
            }
            return isWord("paper") ? BY_PAPER : NONE;
        }

        private int actAtHand() {
            if (isWord("points")) {
                return SET;
            }
            if (isWord("more")) {
                return ADD;
            }
            if (isWord("times")) {
                return SCALE;
            }
            return isWord("none") ? STOP : NONE;
        }

        private boolean takeWord(String word) {
            if (!isWord(word)) {
                return false;
            }
            advance();
            return true;
        }

        private boolean isWord(String word) {
            if (kind != WORD || after - at != word.length()) {
                return false;
            }
            for (int i = 0; i < word.length(); i++) {
                if (text[at + i] != word.charAt(i)) {
                    return false;
                }
            }
            return true;
        }

        private int numberAtHand() {
            int number = 0;
            for (int i = at; i < after; i++) {
                number = number * 10 + text[i] - '0';
            }
            return number;
        }

        private void advance() {
            at = after;
            while (at < length && (text[at] == ' ' || text[at] == '\n')) {
                at++;
            }
            after = at;
            if (at >= length) {
                kind = END;
                return;
            }
            kind = kindOf(text[at]);
            after++;
            boolean isRow = kind == WORD || kind == NUMBER;
            while (isRow && after < length && kindOf(text[after]) == kind) {
                after++;
            }
            if (kind == NUMBER && after - at > DIGITS) {
                kind = BAD;
            }
        }

        private static int kindOf(int sign) {
            if (sign >= 'a' && sign <= 'z') {
                return WORD;
            }
            if (sign >= '0' && sign <= '9') {
                return NUMBER;
            }
            return sign >= ':' && sign <= '>' ? sign : BAD;
        }
    }
}
