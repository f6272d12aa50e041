/**
 * What is so behind a call that is refused: nothing has changed, but for what the document says. Each refused call is
 * made on one of two objects of the same past; all that can be asked of both, and of their IMAGES, has to be the same.
 */
public final class RefusalsTest extends Checks {
    private static final int LOWEST = Integer.MIN_VALUE;
    private static final int HIGHEST = Integer.MAX_VALUE;

    private interface Maker {
        MastSparks make();
    }

    private interface Call {
        Object of(MastSparks x);
    }

    public static void main(String[] args) {
        looksTell();
        tape();
        sixWhys();
        weights();
        landing();
        questionsOfRuns();
        rows();
        fullLists();
        years();
        questionsOfOdds();
        before();
        options();
        questionsOfOptions();
        otherQuestions();
        images();
        end("RefusalsTest");
    }

    private static MastSparks bare() {
        return new MastSparks();
    }

    /** Three WHYS, three ROWS, two LANDINGS before, two OPTIONS, two IMAGES, a FAULT and bytes on the TAPE. */
    private static MastSparks some() {
        MastSparks x = with("leak 7 10 from 0;spark 7 if gap>30;", "leak 3 9 from 4;spark 3 if second>6;", "set 7 9999;");
        x.set(6, 35);
        x.fill(2, 120);
        x.weigh(0, 33);
        x.row(0, 11, 7, 1, 2);
        x.before(2, 200);
        x.option(9, 300, 40);
        x.image();
        x.set(8, 9);
        x.fill(5, 77);
        x.weigh(1, 44);
        x.row(1, 0, 0, 3, 3);
        x.asked(0, 25);
        x.before(5, 300);
        x.image();
        x.row(3, 30, 0, 10, 1);
        x.asked(2, 15);
        x.option(0, 0, 7);
        x.weigh(2, 3);
        tell(x, "set 9 77;  sit;");
        feedText(x, "set 9 77;");
        return x;
    }

    /** As many as there may be of all. */
    private static MastSparks full() {
        MastSparks x = some();
        x.why(0);
        for (int i = 0; i < 3; i++) {
            tell(x, "leak " + i + " 9 from 4;spark " + i + " if second>6;");
        }
        for (int i = 0; i < 10; i++) {
            x.row(i % 6, 9 * i, i % 8, i % 2, i % 9);
            x.before(i, 100 * i);
            x.option(i, 5 + i, 100 - i);
        }
        x.image();
        for (int i = 0; i < 15; i++) {
            x.feed(0x20202020, 0x20202020, 0x20202020, 0x20202020, 0x20202020);
        }
        return x;
    }

    /** All that can be asked of an object; it is not to be used behind this. */
    private static String look(MastSparks x) {
        StringBuilder s = new StringBuilder("fault " + x.fault());
        int bytes = x.count(5);
        int rows = x.count(1);
        int whys = x.count(0);
        s.append(" best ").append(x.best()).append(" all ").append(x.all(30)).append(" next ").append(x.next(15));
        lookAtNumbers(x, s);
        for (int i = 0; i < whys; i++) {
            s.append("\n why ").append(i).append(" odds ").append(x.odds(i)).append(" burnt ").append(x.burnt(i));
            s.append(" dry ").append(x.dry(i)).append(" least ").append(x.least(i, 30));
            s.append(" inquiry ").append(x.inquiry(0, i)).append(" run ").append(x.run(i, 0)).append(' ').append(x.run(i, 2));
            s.append(" wet ").append(x.state(i, 40, 0)).append(" gas ").append(x.state(i, 40, 5));
            s.append(" weight ").append(x.weigh(i, 10));
        }
        for (int i = 0; i < rows; i++) {
            s.append("\n row ").append(i);
            for (int k = 0; k < Math.min(3, whys); k++) {
                s.append(' ').append(x.says(k, i));
            }
            s.append(whys > 0 ? x.inquiry(1 << i, 0) : 0).append(" told ").append(x.asked(i, 0));
        }
        s.append("\n tape ").append(x.why(bytes)).append(" at ").append(x.fault());
        for (int i = 0; i < 4 && x.restore() != -1; i++) {
            lookAtNumbers(x, s.append("\n restored"));
            for (int k = 0; k < whys; k++) {
                s.append(" odds ").append(x.odds(k)).append(" weight ").append(x.weigh(k, 10));
            }
        }
        return s.toString();
    }

    private static void lookAtNumbers(MastSparks x, StringBuilder s) {
        s.append("\n counts");
        for (int i = 0; i < 20; i++) {
            s.append(' ').append(x.count(i));
        }
        s.append(" gas");
        for (int i = 0; i < 8; i++) {
            int gas = x.fill(i, 5);
            x.fill(i, gas);
            s.append(' ').append(gas);
        }
    }

    private static void sameBehind(String what, Maker maker, String want, Call call) {
        MastSparks x = maker.make();
        sameDue(what, answerOf(() -> call.of(x)), want);
        sameDue("look behind " + what, look(x), look(maker.make()));
    }

    /** A call that throws whatever the past is. */
    private static void refused(String what, Class<?> exception, Call call) {
        sameBehind(what + " on some", RefusalsTest::some, thrown(exception), call);
        sameBehind(what + " on full", RefusalsTest::full, thrown(exception), call);
    }

    private static void everywhere(String what, Class<?> exception, Call call) {
        refused(what, exception, call);
        sameBehind(what + " on bare", RefusalsTest::bare, thrown(exception), call);
    }

    /** The looks themselves: each change of one thing has to be seen by them. */
    private static void looksTell() {
        int[] most = {6, 10, 10, 5, 3, 300};
        for (int i = 0; i < 6; i++) {
            due("full of " + i, full().count(i), most[i]);
        }
        String now = look(some());
        sameDue("a look", look(some()), now);
        Call[] changes = {x -> x.feed(0, 0, 0, 0, 0), x -> x.why(9), x -> x.why(0), x -> x.weigh(1, 45),
            x -> x.set(8, 8), x -> x.fill(5, 78), x -> x.row(0, 0, 0, 0, 0), x -> x.asked(1, 10), x -> x.before(0, 0),
            x -> x.option(0, 0, 0), x -> x.image(), x -> x.restore()};
        for (int i = 0; i < changes.length; i++) {
            MastSparks x = some();
            changes[i].of(x);
            due("change " + i + " is seen", look(x).equals(now), false);
        }
    }

    /** Promises 2 and 3. */
    private static void tape() {
        sameBehind("feed on full", RefusalsTest::full, "-1", x -> x.feed(0, 0, 0, 0, 0));
        for (int n : new int[] {-1, 21, 301, LOWEST, HIGHEST}) {
            sameBehind("why(" + n + ")", RefusalsTest::some, thrown(WRONG), x -> x.why(n));
        }
        for (int n : new int[] {-1, 301, LOWEST, HIGHEST}) {
            sameBehind("why(" + n + ") on full", RefusalsTest::full, thrown(WRONG), x -> x.why(n));
        }
        for (int n : new int[] {-1, 1, 20, LOWEST, HIGHEST}) {
            sameBehind("why(" + n + ") on bare", RefusalsTest::bare, thrown(WRONG), x -> x.why(n));
        }
    }

    /** A text with a FAULT changes the TAPE and fault() alone; with 6 WHYS one changes the TAPE alone. */
    private static void sixWhys() {
        MastSparks x = some();
        due("a FAULT", x.why(8), -9);
        due("its place", x.fault(), 8);
        due("the TAPE is empty", x.count(5), 0);
        due("three WHYS", x.count(0), 3);
        feedText(x, "set 9 77;");
        sameDue("all else", withoutFault(look(x)), withoutFault(look(some())));
        MastSparks z = full();
        due("a 7th", z.why(300), -1);
        for (int i = 0; i < 15; i++) {
            z.feed(0x20202020, 0x20202020, 0x20202020, 0x20202020, 0x20202020);
        }
        sameDue("behind a 7th", look(z), look(full()));
    }

    private static String withoutFault(String look) {
        return look.substring(look.indexOf(" best"));
    }

    /** Promise 5. */
    private static void weights() {
        for (int why : new int[] {-1, 6, LOWEST, HIGHEST}) {
            everywhere("weigh(" + why + ", 5)", NO_WHY, x -> x.weigh(why, 5));
            everywhere("weigh(" + why + ", 0)", NO_WHY, x -> x.weigh(why, 0));
        }
        sameBehind("weigh(3, 5)", RefusalsTest::some, thrown(NO_WHY), x -> x.weigh(3, 5));
        for (int v : new int[] {0, 100, LOWEST, HIGHEST}) {
            refused("weigh(0, " + v + ")", WRONG, x -> x.weigh(0, v));
        }
    }

    /** Promises 6 and 7. */
    private static void landing() {
        for (int i = 0; i < 10; i++) {
            int which = i;
            for (int v : new int[] {LOW[i] - 1, HIGH[i] + 1}) {
                everywhere("set(" + i + ", " + v + ")", WRONG, x -> x.set(which, v));
            }
        }
        for (int which : new int[] {-1, 10, LOWEST, HIGHEST}) {
            everywhere("set(" + which + ", 1)", WRONG, x -> x.set(which, 1));
        }
        for (int cell : new int[] {-1, 8, LOWEST, HIGHEST}) {
            everywhere("fill(" + cell + ", 5)", NO_INDEX, x -> x.fill(cell, 5));
            everywhere("fill(" + cell + ", 1000)", NO_INDEX, x -> x.fill(cell, 1000));
        }
        for (int v : new int[] {-1, 1000, LOWEST, HIGHEST}) {
            everywhere("fill(7, " + v + ")", WRONG, x -> x.fill(7, v));
        }
    }

    /** Promises 8 to 10. */
    private static void questionsOfRuns() {
        for (int no : new int[] {-1, 100, LOWEST, HIGHEST}) {
            everywhere("state of WHY " + no, NO_WHY, x -> x.state(no, 0, 0));
            everywhere("cell of WHY " + no, NO_WHY, x -> x.cell(no, 0, 0, 0));
            everywhere("run of WHY " + no, NO_WHY, x -> x.run(no, 0));
            refused("state at " + no, WRONG, x -> x.state(0, no, 0));
            refused("state " + no, WRONG, x -> x.state(0, 0, no));
            refused("cell at " + no, WRONG, x -> x.cell(0, no, 0, 0));
            refused("CELL " + no, NO_INDEX, x -> x.cell(0, 0, no, 0));
            refused("cell " + no, WRONG, x -> x.cell(0, 0, 0, no));
            refused("run " + no, WRONG, x -> x.run(0, no));
        }
    }

    /** Promise 11. */
    private static void rows() {
        int[] least = {0, 0, 0, -9999, 0, -9999};
        int[] most = {1, 7, 99, 9999, 99, 9999};
        for (int i = 0; i < 6; i++) {
            int kind = i;
            for (int no : new int[] {-1, 100, LOWEST, HIGHEST}) {
                everywhere("row " + i + " at " + no, WRONG, x -> x.row(kind, no, 0, 0, 0));
                everywhere("row " + i + " in " + no, WRONG, x -> x.row(kind, 0, no, 0, 0));
                everywhere("row " + i + " by " + no, WRONG, x -> x.row(kind, 0, 0, 0, no));
            }
            for (int no : new int[] {least[i] - 1, most[i] + 1, LOWEST, HIGHEST}) {
                everywhere("row " + i + " of " + no, WRONG, x -> x.row(kind, 0, 0, no, 0));
            }
        }
        for (int no : new int[] {-1, 6, LOWEST, HIGHEST}) {
            everywhere("row " + no, WRONG, x -> x.row(no, 0, 0, 0, 0));
        }
    }

    /** "-1: there are 10", "there are 5", "there are 3": nothing comes in the place of another. */
    private static void fullLists() {
        for (int i = 0; i < 6; i++) {
            int kind = i;
            sameBehind("an 11th row of " + i, RefusalsTest::full, "-1", x -> x.row(kind, 1, 1, 1, 1));
        }
        sameBehind("an 11th before", RefusalsTest::full, "-1", x -> x.before(99, 999));
        sameBehind("a 6th option", RefusalsTest::full, "-1", x -> x.option(9, 999, 0));
        sameBehind("a 4th image", RefusalsTest::full, "-1", x -> x.image());
        sameBehind("a 4th image behind a change of now", () -> changed(full()), "-1", x -> x.image());
    }

    private static MastSparks changed(MastSparks x) {
        x.set(9, 123);
        x.fill(0, 123);
        x.weigh(0, 12);
        x.asked(0, 33);
        return x;
    }

    /** Promise 12. */
    private static void years() {
        for (int row : new int[] {-1, 10, LOWEST, HIGHEST}) {
            everywhere("asked(" + row + ", 50)", NO_INDEX, x -> x.asked(row, 50));
            everywhere("asked(" + row + ", 100)", NO_INDEX, x -> x.asked(row, 100));
        }
        sameBehind("asked(3, 50)", RefusalsTest::some, thrown(NO_INDEX), x -> x.asked(3, 50));
        for (int v : new int[] {-1, 100, LOWEST, HIGHEST}) {
            refused("asked(0, " + v + ")", WRONG, x -> x.asked(0, v));
        }
    }

    /** Promises 13 to 18 and 20. */
    private static void questionsOfOdds() {
        for (int no : new int[] {-1, 10, LOWEST, HIGHEST}) {
            everywhere("says of WHY " + no, NO_WHY, x -> x.says(no, 0));
            refused("says of ROW " + no, NO_INDEX, x -> x.says(0, no));
            everywhere("odds of WHY " + no, NO_WHY, x -> x.odds(no));
            everywhere("share of WHY " + no, NO_WHY, x -> x.share(no));
            everywhere("moved of WHY " + no, NO_WHY, x -> x.moved(no, 0));
            refused("moved of ROW " + no, NO_INDEX, x -> x.moved(0, no));
            everywhere("burnt of WHY " + no, NO_WHY, x -> x.burnt(no));
        }
        for (int no : new int[] {-2, 6, LOWEST, HIGHEST}) {
            everywhere("inquiry of WHY " + no, NO_WHY, x -> x.inquiry(0, no));
        }
        for (int no : new int[] {-1, 1 << 10, LOWEST, HIGHEST}) {
            refused("inquiry by " + no, WRONG, x -> x.inquiry(no, 0));
            everywhere("BEST by " + no, WRONG, x -> x.inquiry(no, NONE));
        }
        sameBehind("inquiry by 8", RefusalsTest::some, thrown(WRONG), x -> x.inquiry(8, 0));
        sameBehind("BEST of none", RefusalsTest::bare, "-1", x -> x.best());
        sameBehind("BEST of none by none", RefusalsTest::bare, "-1", x -> x.inquiry(0, NONE));
    }

    /** Promise 19. */
    private static void before() {
        for (int no : new int[] {-1, 100, LOWEST, HIGHEST}) {
            everywhere("before(" + no + ", 0)", WRONG, x -> x.before(no, 0));
        }
        for (int no : new int[] {-1, 1000, LOWEST, HIGHEST}) {
            everywhere("before(0, " + no + ")", WRONG, x -> x.before(0, no));
        }
    }

    /** Promise 21. */
    private static void options() {
        for (int i = 0; i < 10; i++) {
            int which = i;
            for (int v : new int[] {LOW[i] - 1, HIGH[i] + 1}) {
                everywhere("option(" + i + ", " + v + ", 0)", WRONG, x -> x.option(which, v, 0));
            }
        }
        for (int no : new int[] {-1, 10, LOWEST, HIGHEST}) {
            everywhere("option(" + no + ", 1, 0)", WRONG, x -> x.option(no, 1, 0));
        }
        for (int no : new int[] {-1, 1000, LOWEST, HIGHEST}) {
            everywhere("option(0, 1, " + no + ")", WRONG, x -> x.option(0, 1, no));
        }
    }

    /** Promises 22 to 24. */
    private static void questionsOfOptions() {
        for (int no : new int[] {-1, 100, LOWEST, HIGHEST}) {
            everywhere("safe of WHY " + no, NO_WHY, x -> x.safe(no, 0, 0));
            refused("safe by " + no, WRONG, x -> x.safe(0, no, 0));
            refused("safe for " + no, WRONG, x -> x.safe(0, 0, no));
            everywhere("least of WHY " + no, NO_WHY, x -> x.least(no, 0));
            refused("least for " + no, WRONG, x -> x.least(0, no));
            everywhere("all for " + no, WRONG, x -> x.all(no));
        }
        sameBehind("safe by 4", RefusalsTest::some, thrown(WRONG), x -> x.safe(0, 4, 0));
        refused("safe by 32", WRONG, x -> x.safe(0, 32, 0));
    }

    /** Promises 25 to 28. */
    private static void otherQuestions() {
        for (int no : new int[] {-1, 100, LOWEST, HIGHEST}) {
            everywhere("next at " + no, WRONG, x -> x.next(no));
            everywhere("parted of WHY " + no, NO_WHY, x -> x.parted(no, 0));
            everywhere("parted of another WHY " + no, NO_WHY, x -> x.parted(0, no));
            everywhere("order of WHY " + no, NO_WHY, x -> x.order(no, 0));
            everywhere("dry of WHY " + no, NO_WHY, x -> x.dry(no));
            sameBehind("order " + no, RefusalsTest::some, "-1", x -> x.order(0, no));
            sameBehind("count " + no, RefusalsTest::some, "-1", x -> x.count(no));
        }
        sameBehind("next of none", RefusalsTest::bare, "-1", x -> x.next(0));
    }

    /** Promise 30, "-1: there is none". */
    private static void images() {
        sameBehind("restore on bare", RefusalsTest::bare, "-1", x -> x.restore());
        sameBehind("restore of one too many", () -> changed(withoutImages()), "-1", x -> x.restore());
    }

    private static MastSparks withoutImages() {
        MastSparks x = some();
        x.restore();
        x.restore();
        return x;
    }
}
