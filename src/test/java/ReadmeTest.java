import java.nio.file.Files;
import java.nio.file.Path;
import java.util.List;

/** README.md's example: its lines stand here as they stand there, and each answers what is told beside it. */
public final class ReadmeTest extends Checks {
    public static void main(String[] args) throws Exception {
        example();
        sameLines();
        end("ReadmeTest");
    }

    // This hides the one of Checks: it is README.md's own.
    static int tell(MastSparks x, String text) {
        for (int from = 0; from < text.length(); from += 20) {
            int[] n = new int[5];
            for (int i = 0; i < 20 && from + i < text.length(); i++) {
                n[i / 4] |= text.charAt(from + i) << 24 - i % 4 * 8;
            }
            x.feed(n[0], n[1], n[2], n[3], n[4]);
        }
        return x.why(text.length());
    }

    private static void example() {
        MastSparks x = new MastSparks();
        int gap = tell(x, "leak 7 10 from 0;spark 7 if gap>30;");
        int late = tell(x, "leak 4 5 from 3;spark 4 if second>20;");
        int wrong = tell(x, "leak 8 10 from 0;");
        int place = x.fault();
        allDue("texts", new int[] {gap, late, wrong, place}, 0, 1, -8, 5);

        int began = x.run(gap, 0);
        int down = x.run(gap, 2);
        int spread = x.cell(gap, 15, 6, 2);
        int heavy = x.state(gap, 12, 6);
        int second = x.order(gap, 1);
        allDue("the RUN", new int[] {began, down, spread, heavy, second}, 11, 30, 13, 100, 6);

        int seen = x.row(0, 11, 7, 1, 2);
        int told = x.row(1, 0, 0, 4, 3);
        int share = x.share(gap);
        int wrongNow = x.asked(told, 25);
        int shareNow = x.share(gap);
        int moved = x.moved(gap, seen);
        int inquiry = x.inquiry(2, -1);
        int before = x.before(0, 200);
        int burnt = x.burnt(late);
        allDue("ROWS", new int[] {seen, told, share, wrongNow, shareNow}, 0, 1, 617, 5, 760);
        allDue("ODDS", new int[] {moved, inquiry, before, burnt}, 448, 1, 1, 1);

        int leads = x.option(1, 300, 5);
        int sink = x.option(8, 1, 2);
        boolean safe = x.safe(gap, 0, 30);
        int least = x.least(gap, 30);
        int next = x.next(13);
        int dry = x.dry(gap);
        allDue("OPTIONS", new int[] {leads, sink, safe ? 1 : 0, least, next, dry}, 0, 1, 0, 2, 6, 197);
    }

    private static void allDue(String what, int[] got, int... want) {
        for (int i = 0; i < want.length; i++) {
            due(what + ", line " + i, got[i], want[i]);
        }
    }

    private static void sameLines() throws Exception {
        List<String> here = Files.readAllLines(Path.of("src/test/java/ReadmeTest.java"));
        here.replaceAll(String::strip);
        boolean inside = false;
        int lines = 0;
        for (String line : Files.readAllLines(Path.of("README.md"))) {
            if (line.startsWith("```")) {
                inside = line.equals("```java");
            } else if (inside) {
                String code = line.replaceFirst(" +//.*", "").strip();
                due("ReadmeTest has <" + code + ">", here.contains(code), true);
                lines++;
            }
        }
        due("README.md shows how the class is used", lines > 30, true);
    }
}
