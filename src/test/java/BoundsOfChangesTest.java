/** The boundary cases of the LANDING, OPTIONS and IMAGES: part 4, and promises 1, 6, 21 to 25 and 29 to 31. */
public final class BoundsOfChangesTest extends Checks {
    private static final String AT_ONCE = "leak 3 1 from 0;spark 3 if 1=1;";
    /** DOWN in SECOND HEIGHT - 1, whatever burns. */
    private static final String SINKS = "set 7 9999;set 8 1;";

    public static void main(String[] args) {
        newObject();
        numbers();
        numbersCount();
        fiveOptions();
        optionValues();
        optionCosts();
        optionsInOrder();
        optionBits();
        safeForSeconds();
        safeWithoutLasted();
        secondsTold();
        leastCost();
        leastOfTwo();
        leastOfFive();
        leastFirstByBits();
        leastByNone();
        allWhys();
        allOfNone();
        nextOfNone();
        nextGreaterPart();
        nextByBothParts();
        nextSeconds();
        threeImages();
        restoreLatest();
        restoreAll();
        toldSince();
        notInAnImage();
        count();
        countFull();
        lastCall();
        end("BoundsOfChangesTest");
    }

    /** Promise 1, "A LANDING as told, no WHYS". */
    private static void newObject() {
        MastSparks x = new MastSparks();
        for (int i = 0; i < 10; i++) {
            due("number " + i, x.count(10 + i), FIRST[i]);
        }
        for (int i = 0; i < 6; i++) {
            due("count " + i, x.count(i), 0);
        }
        due("no FAULT", x.fault(), NONE);
        due("no BEST", x.best(), NONE);
        throwsDue("no WHY 0", NO_WHY, () -> x.odds(0));
        throwsDue("no ROW 0", NO_INDEX, () -> x.asked(0, 0));
        throwsDue("no OPTION 0", WRONG, () -> with("").safe(0, 1, 0));
        due("no IMAGE", x.restore(), -1);
        MastSparks other = with("set 9 5;");
        other.set(0, 7);
        due("of another it knows nothing", x.count(10) + x.count(0), 2);
    }

    /** Promise 6, each number's least and greatest; "IllegalArgumentException: which, or v". */
    private static void numbers() {
        MastSparks x = new MastSparks();
        for (int i = 0; i < 10; i++) {
            int which = i;
            due("what it was", x.set(i, LOW[i]), FIRST[i]);
            due("the least", x.count(10 + i), LOW[i]);
            due("what it was", x.set(i, HIGH[i]), LOW[i]);
            due("the most", x.count(10 + i), HIGH[i]);
            for (int no : new int[] {LOW[i] - 1, HIGH[i] + 1, Integer.MIN_VALUE, Integer.MAX_VALUE}) {
                throwsDue("set " + i + " to " + no, WRONG, () -> x.set(which, no));
                due("it stays", x.count(10 + i), HIGH[i]);
            }
        }
        for (int no : new int[] {-1, 10, 19, Integer.MIN_VALUE, Integer.MAX_VALUE}) {
            throwsDue("which " + no, WRONG, () -> x.set(no, 1));
        }
        for (int i = 0; i < 10; i++) {
            due("all stay", x.set(i, LOW[i]), HIGH[i]);
        }
    }

    /** A RUN is by the LANDING of now, each number at its least and at its most. */
    private static void numbersCount() {
        MastSparks x = with(AT_ONCE, "");
        x.set(7, 0);
        due("LIFT 0", x.run(0, 2), NONE);
        x.set(7, 9999);
        due("LIFT 9,999", x.run(1, 2), 14);
        x.set(8, 99);
        due("SINK 99", x.run(1, 2), 0);
        x.set(9, 999);
        due("HEIGHT 999", x.run(1, 2), 10);
        x.set(8, 0);
        due("SINK 0", x.run(1, 2), NONE);
        x.set(9, 0);
        due("HEIGHT 0", x.run(1, 2), 0);
        x.set(5, 20);
        due("SPREAD 20", x.order(0, 1), 2);
        due("its SECOND", x.cell(0, 99, 2, 2), 20);
        x.set(5, 1);
        due("SPREAD 1", x.cell(0, 99, 2, 2), 1);
        x.set(6, 99);
        due("BURN 99", x.cell(0, 0, 3, 0), 0);
        x.set(6, 0);
        due("BURN 0", x.cell(0, 0, 3, 0), 99);
        x.set(1, 0);
        x.set(3, 99);
        x.set(4, 0);
        due("FRAME 99, SKIN 0", x.state(1, 0, 3), 99);
        x.set(3, 0);
        x.set(4, 99);
        due("FRAME 0, SKIN 99", x.state(1, 0, 3), -99);
        x.set(2, 0);
        due("CHARGE 0", x.state(1, 0, 3), 0);
        x.set(0, 0);
        due("RAIN 0", x.state(1, 99, 0), 0);
        x.set(0, 99);
        due("RAIN 99", x.state(1, 99, 0), 9900);
    }

    /** Promise 21, "OPTIONS, 5 at most", "its number; -1: there are 5". */
    private static void fiveOptions() {
        MastSparks x = with("");
        for (int i = 0; i < 5; i++) {
            throwsDue("one that is none has no number", WRONG, () -> x.option(5, 0, 0));
            due("option " + i, x.option(i, 1, 1), i);
            due("count " + i, x.count(3), i + 1);
        }
        due("a 6th", x.option(5, 1, 1), -1);
        due("five", x.count(3), 5);
        throwsDue("a 6th that is none", WRONG, () -> x.option(5, 0, 1));
        throwsDue("there is no bit of a 6th", WRONG, () -> x.safe(0, 32, 0));
    }

    /** Promise 21, "IllegalArgumentException: which, v". */
    private static void optionValues() {
        for (int i = 0; i < 10; i++) {
            int which = i;
            MastSparks x = new MastSparks();
            due("the least of " + i, x.option(i, LOW[i], 0), 0);
            due("the most of " + i, x.option(i, HIGH[i], 0), 1);
            for (int no : new int[] {LOW[i] - 1, HIGH[i] + 1, Integer.MIN_VALUE, Integer.MAX_VALUE}) {
                throwsDue("option " + i + " of " + no, WRONG, () -> x.option(which, no, 0));
            }
            due("two of " + i, x.count(3), 2);
            due("the LANDING stays", x.count(10 + i), FIRST[i]);
        }
        MastSparks x = new MastSparks();
        for (int no : new int[] {-1, 10, Integer.MIN_VALUE, Integer.MAX_VALUE}) {
            throwsDue("option of number " + no, WRONG, () -> x.option(no, 1, 0));
        }
        due("none", x.count(3), 0);
    }

    /** Promise 21, "at a COST (0 to 999)". */
    private static void optionCosts() {
        MastSparks x = new MastSparks();
        due("COST 0", x.option(0, 0, 0), 0);
        due("COST 999", x.option(0, 0, 999), 1);
        for (int no : new int[] {-1, 1000, Integer.MIN_VALUE, Integer.MAX_VALUE}) {
            throwsDue("COST " + no, WRONG, () -> x.option(0, 0, no));
        }
        due("two", x.count(3), 2);
    }

    /** "(made in order, ahead of its sets)". */
    private static void optionsInOrder() {
        MastSparks x = with(AT_ONCE + SINKS + "set 9 5;", AT_ONCE + SINKS);
        x.set(9, 5);
        x.option(9, 50, 1);
        x.option(9, 10, 1);
        x.option(9, 30, 1);
        int[] lasted = {4, 49, 9, 9, 29, 29, 29, 29};
        for (int bits = 0; bits < 8; bits++) {
            due("for as long by " + bits, x.safe(1, bits, lasted[bits]), true);
            due("not for longer by " + bits, x.safe(1, bits, lasted[bits] + 1), false);
            due("a set counts, whatever " + bits, x.safe(0, bits, 4), true);
            due("and no more", x.safe(0, bits, 5), false);
        }
        due("the LANDING stays", x.count(19), 5);
    }

    /** Promise 22, "IllegalArgumentException: bits of no OPTION". */
    private static void optionBits() {
        MastSparks x = with("");
        for (int options = 0; options <= 5; options++) {
            int first = 1 << options;
            due("no bits of " + options, x.safe(0, 0, 0), true);
            due("all bits of " + options, x.safe(0, first - 1, 0), true);
            for (int no : new int[] {first, first | 1, 32, 1 << 30, Integer.MAX_VALUE, Integer.MIN_VALUE, -1}) {
                throwsDue("bits " + no + " of " + options, WRONG, () -> x.safe(0, no, 0));
            }
            x.option(0, 0, 0);
        }
    }

    /** "LASTED is none, or told SECONDS or more". */
    private static void safeForSeconds() {
        int[] heights = {1, 2, 50, 99, 100};
        for (int height : heights) {
            MastSparks x = with(AT_ONCE + SINKS + "set 9 " + height + ";");
            int lasted = height - 1;
            due("LASTED", x.run(0, 3), lasted);
            due("0", x.safe(0, 0, 0), true);
            due("as many", x.safe(0, 0, lasted), true);
            if (lasted > 0) {
                due("one less", x.safe(0, 0, lasted - 1), true);
            }
            if (lasted < 99) {
                due("one more", x.safe(0, 0, lasted + 1), false);
                due("99", x.safe(0, 0, 99), false);
            }
        }
    }

    /** SAFE where LASTED is none: no fire, never DOWN, DOWN ahead of BEGAN. */
    private static void safeWithoutLasted() {
        MastSparks x = with("", SINKS, AT_ONCE + "set 7 0;", "leak 3 1 from 0;spark 3 if second=50;" + SINKS + "set 9 50;",
                "leak 3 1 from 0;spark 3 if second=50;" + SINKS + "set 9 51;", AT_ONCE + SINKS + "set 9 101;");
        due("neither", x.safe(0, 0, 99), true);
        due("no fire", x.safe(1, 0, 99), true);
        due("never DOWN", x.safe(2, 0, 99), true);
        due("DOWN a SECOND ahead of BEGAN", x.safe(3, 0, 99), true);
        due("both in one SECOND, for 0", x.safe(4, 0, 0), true);
        due("both in one SECOND, for 1", x.safe(4, 0, 1), false);
        due("DOWN behind SECOND 99", x.safe(5, 0, 99), true);
        due("DOWN behind SECOND 99, BEGAN late",
                with("leak 3 1 from 0;spark 3 if second=50;" + SINKS + "set 9 101;").safe(0, 0, 99), true);
    }

    /** Promises 22 to 24, "SECONDS (0 to 99)". */
    private static void secondsTold() {
        MastSparks x = with("", "");
        for (int seconds : new int[] {0, 99}) {
            due("safe", x.safe(1, 0, seconds), true);
            due("least", x.least(1, seconds), 0);
            due("all", x.all(seconds), 0);
        }
        for (int no : new int[] {-1, 100, Integer.MIN_VALUE, Integer.MAX_VALUE}) {
            throwsDue("safe for " + no, WRONG, () -> x.safe(0, 0, no));
            throwsDue("least for " + no, WRONG, () -> x.least(0, no));
            throwsDue("all for " + no, WRONG, () -> x.all(no));
            throwsDue("all of none for " + no, WRONG, () -> new MastSparks().all(no));
        }
        for (int no : new int[] {-1, 2, 6, Integer.MIN_VALUE, Integer.MAX_VALUE}) {
            throwsDue("safe of WHY " + no, NO_WHY, () -> x.safe(no, 0, 0));
            throwsDue("least of WHY " + no, NO_WHY, () -> x.least(no, 0));
            throwsDue("no WHY goes first", NO_WHY, () -> x.safe(no, 1, 100));
            throwsDue("no WHY goes first", NO_WHY, () -> x.least(no, 100));
        }
    }

    /** Promise 23, "of all sets by which it is SAFE the one of the least COST". */
    private static void leastCost() {
        MastSparks x = with(AT_ONCE + SINKS);
        x.set(9, 10);
        due("none needed", x.least(0, 9), 0);
        due("by none", x.least(0, 10), NONE);
        x.option(9, 20, 999);
        due("the only one", x.least(0, 10), 1);
        x.option(9, 20, 998);
        due("one less", x.least(0, 10), 2);
        due("still none needed", x.least(0, 9), 0);
        x.option(9, 40, 999);
        due("the one that lasts", x.least(0, 20), 4);
        x.option(9, 40, 0);
        due("for nothing", x.least(0, 10), 8);
        due("and for longer", x.least(0, 39), 8);
        due("by none", x.least(0, 40), NONE);
        x.option(9, 41, 999);
        due("by the last alone", x.least(0, 40), 16);
    }

    /** LEAST of two OPTIONS that are both needed. */
    private static void leastOfTwo() {
        MastSparks x = with("leak 3 1 from 0;spark 3 if wet>0 or gap>0;set 7 9999;");
        x.set(1, 0);
        x.option(0, 0, 0);
        due("RAIN 0 is not enough", x.least(0, 99), NONE);
        x.option(3, 3, 999);
        due("two of two", x.least(0, 99), 3);
        due("one is not enough", x.safe(0, 1, 99), false);
        due("nor the other", x.safe(0, 2, 99), false);
        x.option(8, 0, 998);
        due("never DOWN for less", x.least(0, 99), 4);
    }

    /** LEAST of all five OPTIONS at the greatest COST: wet, gap and height have to be as they make them together. */
    private static void leastOfFive() {
        String text = "leak 3 1 from 0;spark 3 if not [wet=1 and gap=5 and height=7 and gas=99] and second=0;set 7 9999;";
        MastSparks x = with(text);
        x.set(8, 1);
        x.set(1, 999);
        x.set(3, 0);
        x.set(4, 0);
        // LEADS 1 and RAIN 1 lead in SECOND 0; FRAME 6 less SKIN 1 is a gap of 5; HEIGHT 7.
        x.option(0, 1, 999);
        x.option(1, 1, 999);
        x.option(3, 6, 999);
        x.option(4, 1, 999);
        x.option(9, 7, 999);
        due("all five are needed", x.least(0, 90), 31);
        for (int bits = 0; bits < 31; bits++) {
            due("not by " + bits, x.safe(0, bits, 90), false);
        }
        due("by all of WHYS, too", x.all(90), 31);
    }

    /** Promise 23, "of these the first by bits". */
    private static void leastFirstByBits() {
        MastSparks x = with(AT_ONCE + SINKS);
        x.set(9, 10);
        x.option(0, 0, 0);
        due("none, though one is for nothing", x.least(0, 9), 0);
        x.option(9, 50, 5);
        x.option(9, 60, 5);
        x.option(9, 70, 5);
        x.option(1, 0, 0);
        due("the first of three", x.least(0, 49), 2);
        due("the first of two", x.least(0, 50), 4);
        due("one", x.least(0, 60), 8);
        due("all", x.all(49), 2);
        due("all", x.all(50), 4);
        // Bits 3 (COST 2 and 3) are ahead of bits 4 (COST 5), though they are two.
        MastSparks y = with("leak 3 1 from 0;spark 3 if wet>0 or gap>0;set 7 9999;");
        y.set(1, 0);
        y.option(0, 0, 2);
        y.option(3, 3, 3);
        y.option(8, 0, 5);
        due("two ahead of one of the same COST", y.least(0, 99), 3);
        MastSparks z = with("leak 3 1 from 0;spark 3 if wet>0 or gap>0;set 7 9999;");
        z.set(1, 0);
        z.option(8, 0, 5);
        z.option(0, 0, 2);
        z.option(3, 3, 3);
        due("one ahead of two of the same COST", z.least(0, 99), 1);
    }

    /** Promises 23 and 24, "NONE: by none". */
    private static void leastByNone() {
        MastSparks x = with(AT_ONCE + SINKS + "set 9 10;", "");
        for (int i = 0; i < 5; i++) {
            x.option(9, 999, 0);
        }
        due("it sets it", x.least(0, 10), NONE);
        due("all", x.all(10), NONE);
        due("the other is SAFE by none of them", x.least(1, 99), 0);
    }

    /** Promise 24, "LEAST by which all WHYS are SAFE". */
    private static void allWhys() {
        String rain = "leak 3 1 from 0;spark 3 if wet>0;set 7 9999;";
        String gap = "leak 3 1 from 0;spark 3 if gap>0;set 7 9999;";
        MastSparks x = with(rain, gap);
        x.set(1, 0);
        x.option(0, 0, 1);
        x.option(3, 3, 1);
        x.option(8, 0, 3);
        due("the first alone", x.least(0, 99), 1);
        due("the second alone", x.least(1, 99), 2);
        due("both", x.all(99), 3);
        MastSparks six = with("", "", "", "", "", rain);
        due("by none", six.all(99), NONE);
        six.option(0, 0, 1);
        due("the sixth counts", six.all(99), 1);
        MastSparks first = with(rain, "", "", "", "", "");
        due("by none", first.all(99), NONE);
        first.option(0, 0, 1);
        due("the first counts", first.all(99), 1);
    }

    /** Promise 24 without WHYS: no OPTION is needed, so the first set, which is of the least COST, is LEAST. */
    private static void allOfNone() {
        MastSparks x = new MastSparks();
        due("no OPTIONS", x.all(0), 0);
        x.option(0, 0, 0);
        due("an OPTION for nothing", x.all(99), 0);
    }

    /** Promise 25, "NONE: there are no WHYS". */
    private static void nextOfNone() {
        MastSparks x = new MastSparks();
        due("SECOND 0", x.next(0), NONE);
        due("SECOND 99", x.next(99), NONE);
        throwsDue("SECOND 100", WRONG, () -> x.next(100));
        x.why(0);
        due("one WHY", x.next(0), 0);
    }

    /** NEXT, "so that .. the greater of both parts .. is least; of these the first". */
    private static void nextGreaterPart() {
        String[] fires = new String[6];
        for (int i = 0; i < 6; i++) {
            fires[i] = "leak " + (7 - i) + " 1 from 0;spark " + (7 - i) + " if 1=1;";
        }
        MastSparks x = with(fires);
        due("CELL 2 is the first of six that are the same", x.next(0), 2);
        x.weigh(0, 11);
        due("the last CELL", x.next(0), 7);
        x.weigh(5, 11);
        due("the first of two", x.next(0), 2);
        x.weigh(0, 99);
        x.weigh(5, 98);
        due("the one of more ODDS", x.next(0), 7);
        MastSparks none = with("", "");
        due("no fire at all", none.next(50), 0);
        MastSparks same = with(fires[0], fires[0]);
        due("the same fire", same.next(0), 0);
    }

    /** NEXT is by the greater part, on whichever side it is, and by ODDS with LANDINGS before. */
    private static void nextByBothParts() {
        String tail = "leak 5 1 from 0;spark 5 if 1=1;";
        MastSparks x = with("leak 2 1 from 0;spark 2 if 1=1;" + tail, tail, "");
        // Of 30: CELL 2 parts 10 and 20, CELL 5 20 and 10.
        due("both as great", x.next(0), 2);
        x.weigh(2, 11);
        due("20 and 11 are less than 10 and 21", x.next(0), 5);
        x.weigh(0, 11);
        due("11 and 21, 21 and 11", x.next(0), 2);
        x.weigh(2, 99);
        due("99 and 21", x.next(0), 5);
        x.before(0, 0);
        x.before(0, 0);
        x.before(0, 0);
        x.before(0, 0);
        x.weigh(2, 1);
        due("of 0, 0 and 1 none parts better", x.next(0), 0);
    }

    /** Promise 25, "IllegalArgumentException: the SECOND". */
    private static void nextSeconds() {
        MastSparks x = with("leak 6 1 from 0;spark 6 if second=99;", "");
        due("SECOND 0", x.next(0), 0);
        due("SECOND 98", x.next(98), 0);
        due("SECOND 99", x.next(99), 6);
        for (int no : new int[] {-1, 100, Integer.MIN_VALUE, Integer.MAX_VALUE}) {
            throwsDue("SECOND " + no, WRONG, () -> x.next(no));
        }
    }

    /** Promise 29, "how many there are; -1: there are 3"; promise 30, "how many are left; -1: there is none". */
    private static void threeImages() {
        MastSparks x = new MastSparks();
        due("none", x.restore(), -1);
        due("none again", x.restore(), -1);
        for (int round = 0; round < 2; round++) {
            for (int i = 1; i <= 3; i++) {
                due("image", x.image(), i);
                due("count", x.count(4), i);
            }
            due("a 4th", x.image(), -1);
            due("three", x.count(4), 3);
            for (int i = 2; i >= 0; i--) {
                due("restore", x.restore(), i);
                due("count", x.count(4), i);
            }
            due("none is left", x.restore(), -1);
            due("none", x.count(4), 0);
        }
        x.image();
        x.image();
        x.restore();
        due("room again", x.image(), 2);
    }

    /** Promise 30, "All is as in the latest IMAGE, which is gone"; a 4th that is refused is no IMAGE. */
    private static void restoreLatest() {
        MastSparks x = new MastSparks();
        for (int i = 1; i <= 4; i++) {
            x.set(9, i);
            x.image();
        }
        x.set(9, 5);
        int[] due = {3, 2, 1};
        for (int i = 0; i < 3; i++) {
            x.restore();
            due("HEIGHT", x.count(19), due[i]);
            x.set(9, 99);
        }
        x.restore();
        due("as it is, without one", x.count(19), 99);
    }

    /** Promise 29, "the LANDING (GAS, too), ROWS, LANDINGS before, OPTIONS, WEIGHTS": from empty to full and back. */
    private static void restoreAll() {
        MastSparks x = with(AT_ONCE, "");
        x.image();
        for (int i = 0; i < 10; i++) {
            x.set(i, HIGH[i]);
            x.row(0, 0, 3, 1, 0);
            x.before(0, 0);
            x.option(9, 999, 0);
        }
        for (int i = 0; i < 8; i++) {
            x.fill(i, 999);
        }
        x.weigh(0, 99);
        x.weigh(1, 1);
        x.asked(9, 99);
        due("full", x.image(), 2);
        long odds = x.odds(0);
        due("ODDS of all that", odds, (99L << 36) * 8 >> 10);
        x.asked(9, 0);
        due("other years", x.odds(0), 99L << 30);
        x.fill(0, 5);
        x.set(9, 5);
        x.weigh(0, 5);
        due("a RUN of now", x.state(1, 0, 5), 6998);
        due("back to full", x.restore(), 1);
        due("years, too", x.odds(0), odds);
        due("gas, too", x.state(1, 0, 5), 7992);
        due("HEIGHT, too", x.count(19), 999);
        due("full of ROWS", x.row(0, 0, 0, 0, 0), -1);
        due("full of LANDINGS", x.before(0, 0), -1);
        due("full of OPTIONS", x.option(0, 0, 0), -1);
        due("back to nothing", x.restore(), 0);
        for (int i = 0; i < 10; i++) {
            due("number " + i, x.count(10 + i), FIRST[i]);
        }
        for (int i = 0; i < 8; i++) {
            due("gas " + i, x.fill(i, 100), 100);
        }
        due("ROWS", x.count(1), 0);
        due("LANDINGS", x.count(2), 0);
        due("OPTIONS", x.count(3), 0);
        due("ODDS", x.odds(0) + x.odds(1), 20);
        due("room for a ROW", x.row(0, 0, 3, 1, 1), 0);
        due("with no years", x.odds(0), 150);
        due("room for a LANDING", x.before(0, 0), 1);
        due("that counts", x.odds(0), 75);
        due("room for an OPTION", x.option(0, 0, 0), 0);
    }

    /** Promise 30, "(A WHY told since has WEIGHT 10.)". */
    private static void toldSince() {
        MastSparks x = with("");
        x.weigh(0, 20);
        x.image();
        x.weigh(0, 21);
        x.why(0);
        x.weigh(1, 31);
        x.image();
        x.weigh(1, 32);
        for (int i = 2; i < 6; i++) {
            x.why(0);
            x.weigh(i, 40 + i);
        }
        x.restore();
        due("told ahead of both", x.odds(0), 21);
        due("told ahead of the latest", x.odds(1), 31);
        for (int i = 2; i < 6; i++) {
            due("told since", x.odds(i), 10);
        }
        x.weigh(5, 55);
        x.restore();
        due("told ahead of it", x.odds(0), 20);
        for (int i = 1; i < 6; i++) {
            due("told since", x.odds(i), 10);
        }
        due("all are there", x.count(0), 6);
    }

    /** WHYS, the TAPE and the FAULT are not of an IMAGE. */
    private static void notInAnImage() {
        MastSparks x = new MastSparks();
        x.image();
        tell(x, "set 9 77;");
        tell(x, "set 5 3;;");
        feedText(x, "set 9 66;");
        due("restore", x.restore(), 0);
        due("the WHY stays", x.state(0, 0, 4), 77);
        due("the FAULT stays", x.fault(), 8);
        due("the TAPE stays", x.count(5), 20);
        due("and is as it was", x.why(9), 1);
        due("its WHY", x.state(1, 0, 4), 66);
    }

    /** Promise 31, "10 to 19 the LANDING's numbers; NONE for others". */
    private static void count() {
        MastSparks x = new MastSparks();
        for (int i = 0; i < 10; i++) {
            x.set(i, 11 + i > HIGH[i] ? HIGH[i] : 11 + i);
            due("number " + i, x.count(10 + i), 11 + i);
        }
        for (int no : new int[] {-1, 6, 7, 8, 9, 20, 21, 100, Integer.MIN_VALUE, Integer.MAX_VALUE}) {
            due("count " + no, x.count(no), NONE);
        }
    }

    /** Promise 31, each at its most. */
    private static void countFull() {
        MastSparks x = with("", "", "", "", "", "");
        for (int i = 0; i < 20; i++) {
            x.row(0, 0, 0, 0, 0);
            x.before(0, 0);
            x.option(0, 0, 0);
            x.image();
            x.feed(0, 0, 0, 0, 0);
        }
        int[] most = {6, 10, 10, 5, 3, 300};
        for (int i = 0; i < 6; i++) {
            due("count " + i, x.count(i), most[i]);
        }
    }

    /** "An object is used for at most 512 calls": the 512th of them is as good as the first. */
    private static void lastCall() {
        MastSparks x = new MastSparks();
        for (int i = 0; i < 127; i++) {
            x.feed(0x73657420, 0x3920373b, 0x73657420, 0x3920393b, i);
            due("a FAULT", x.why(20), -9);
            due("its place", x.fault(), 16);
            due("HEIGHT", x.set(9, i), i == 0 ? 90 : i - 1);
        }
        // 508 calls are made.
        x.feed(0x73657420, 0x3920373b, 0x73657420, 0x3920393b, 0x20202020);
        due("a WHY", x.why(20), 0);
        due("its HEIGHT", x.state(0, 0, 4), 9);
        due("the 512th", x.count(19), 126);
    }
}
