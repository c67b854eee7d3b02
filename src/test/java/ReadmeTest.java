import java.io.IOException;
import java.nio.file.Files;
import java.nio.file.Path;
import java.util.List;

/** The run that README.md shows: each line answers what stands behind it, and no line goes untested. */
public final class ReadmeTest {
    private static final List<String> LINES = readLines();
    private static int next = 0;

    private ReadmeTest() {
    }

    public static void main(String[] args) {
        run();
        grid();
        Check.end();
    }

    private static List<String> readLines() {
        try {
            return Files.readAllLines(Path.of("README.md"));
        } catch (IOException gone) {
            throw new IllegalStateException(gone);
        }
    }

    /** The next call that the README shows must be this one, with this answer behind it. */
    private static void due(long got, String call, String answer) {
        String text = "fund." + call + "; // " + answer;
        while (next < LINES.size() && !LINES.get(next).startsWith("fund.")) {
            next++;
        }
        String line = next < LINES.size() ? LINES.get(next) : "";
        next++;
        String behind = line.startsWith(text) ? line.substring(text.length()) : "x";
        boolean same = behind.isEmpty() || " :".indexOf(behind.charAt(0)) >= 0;
        Check.due("README.md has '" + text + "', not '" + line + "'", same, true);
        long want = answer.equals("true") ? 1 : answer.equals("false") ? 0 : Long.parseLong(answer);
        Check.due(call, got, want);
    }

    private static void due(boolean got, String call, String answer) {
        due(got ? 1L : 0L, call, answer);
    }

    private static void run() {
        ClaimsFund x = new ClaimsFund();
        due(x.fund(1000), "fund(1000)", "true");
        due(x.feed(0x706f696e, 0x74732031, 0x303b2077, 0x68656e20, 0x70617065),
            "feed(0x706f696e, 0x74732031, 0x303b2077, 0x68656e20, 0x70617065)", "20");
        due(x.feed(0x7220323a, 0x206d6f72, 0x65203330, 0x3b202020, 0x20202020),
            "feed(0x7220323a, 0x206d6f72, 0x65203330, 0x3b202020, 0x20202020)", "40");
        due(x.end(33), "end(33)", "33");
        due(x.grid(), "grid()", "2");
        due(x.claim(7, 0, 3, 0, 0), "claim(7, 0, 3, 0, 0)", "0");
        due(x.claim(8, 0, 0, 0, 4), "claim(8, 0, 0, 0, 4)", "1");
        due(x.tell(0, 6), "tell(0, 6)", "10");
        due(x.tell(0, 7), "tell(0, 7)", "40");
        due(x.lacks(0, 2), "lacks(0, 2)", "30");
        due(x.judge(1), "judge(1)", "40");
        due(x.money(1, 0), "money(1, 0)", "500");
        due(x.fee(1, 10), "fee(1, 10)", "true");
        due(x.lien(1, 0, 100), "lien(1, 0, 100)", "0");
        due(x.heir(1, 2), "heir(1, 2)", "0");
        due(x.heir(1, 1), "heir(1, 1)", "1");
        due(x.wave(50), "wave(50)", "250");
        due(x.money(1, 2), "money(1, 2)", "25");
        due(x.money(1, 10), "money(1, 10)", "100");
        due(x.money(1, 20), "money(1, 20)", "84");
        due(x.money(1, 21), "money(1, 21)", "41");
        due(x.appeal(1, 10), "appeal(1, 10)", "false");
        due(x.image(0), "image(0)", "true");
        due(x.judge(0), "judge(0)", "10");
        due(x.finish(), "finish()", "750");
        due(x.money(0, 5), "money(0, 5)", "200");
        due(x.again(0), "again(0)", "true");
        due(x.sum(1), "sum(1)", "250");
        boolean more = next < LINES.size()
            && LINES.subList(next, LINES.size()).stream().anyMatch(line -> line.startsWith("fund."));
        Check.due("README.md shows calls that are not tested", more, false);
    }

    /** The grid that stands indented behind its heading: the words that it is told with say what it makes. */
    private static void grid() {
        StringBuilder text = new StringBuilder();
        for (int i = LINES.indexOf("### The grid") + 1; i < LINES.indexOf("### The calls"); i++) {
            text.append(LINES.get(i).startsWith("    ") ? LINES.get(i).substring(4) + "\n" : "");
        }
        ClaimsFund x = new ClaimsFund();
        Check.due("grid() of the README's text", Check.grid(x, text.toString()), 4);
        Check.due("points(0, 1, 0, 0)", x.points(0, 1, 0, 0), 10);
        Check.due("points(2, 1, 30, 0)", x.points(2, 1, 30, 0), 35);
        Check.due("points(2, 1, 31, 0)", x.points(2, 1, 31, 0), 10);
        Check.due("points(2, 1, 0, 9)", x.points(2, 1, 0, 9), 52);
        Check.due("points(2, 1, 0, 8)", x.points(2, 1, 0, 8), 35);
        Check.due("points(2, 0, 0, 9)", x.points(2, 0, 0, 9), 0);
    }
}
