/** Each promise of the document on runs that were worked by hand: ordinary inputs, named edges, wrong inputs. */
public final class PromiseTest extends Checks {
    private static final String LEAK_AND_GAP = "leak 7 10 from 0;spark 7 if gap>30;";
    private static final String AT_ONCE = "leak 0 99 from 0;spark 0 if mixed>0;";

    public static void main(String[] args) throws Exception {
        newObject();
        feed();
        why();
        faultsOfPlace();
        faultsOfNumbers();
        faultsOfLimits();
        conditions();
        weigh();
        set();
        fill();
        state();
        cell();
        runLeaks();
        runSparks();
        runFire();
        runDown();
        row();
        asked();
        askedOnAndOn();
        says();
        oddsAndShare();
        bestAndMoved();
        inquiry();
        beforeAndBurnt();
        options();
        leastAndAll();
        next();
        parted();
        order();
        dry();
        images();
        count();
        end("PromiseTest");
    }

    // Promise 1
    private static void newObject() {
        MastSparks x = new MastSparks();
        int[] first = {2, 20, 200, 15, 3, 2, 20, 600, 6, 90};
        for (int i = 0; i < 10; i++) {
            due("number " + i, x.count(10 + i), first[i]);
        }
        for (int i = 0; i < 8; i++) {
            due("gas " + i, x.fill(i, 1), 100);
        }
        for (int i = 0; i < 6; i++) {
            due("count " + i, x.count(i), 0);
        }
        due("fault", x.fault(), -1);
        due("NONE", MastSparks.NONE, -1);
    }

    // Promise 2
    private static void feed() {
        MastSparks x = new MastSparks();
        for (int i = 1; i <= 15; i++) {
            due("feed " + i, x.feed(0x20202020, 0x20202020, 0x20202020, 0x20202020, 0x20202020), 20 * i);
        }
        due("feed beyond 300", x.feed(1, 2, 3, 4, 5), -1);
        due("bytes", x.count(5), 300);
        due("300 blanks are a WHY", x.why(300), 0);
        due("empty", x.count(5), 0);
        due("feed again", x.feed(-1, -1, -1, -1, -1), 20);
        due("bytes above 127 can't stand", x.why(20), -9);
        due("at 0", x.fault(), 0);
        feedText(x, ";".repeat(300));
        due("300 signs", x.why(300), -9);
        feedText(x, ";1".repeat(150));
        due("a number at the end", x.why(300), -9);
        feedText(x, "1".repeat(300));
        due("300 digits", x.why(300), -9);
        feedText(x, "a".repeat(300));
        due("300 letters", x.why(300), -9);
        x.feed(0x73657420, 0x3520333b, 0, 0, 0);
        due("highest byte first", x.why(8), 1);
    }

    // Promise 3
    private static void why() {
        MastSparks x = new MastSparks();
        throwsDue("why(1) on an empty TAPE", WRONG, () -> x.why(1));
        feedText(x, "set 5 3;");
        throwsDue("why(-1)", WRONG, () -> x.why(-1));
        throwsDue("why(21)", WRONG, () -> x.why(21));
        due("the TAPE stays", x.count(5), 20);
        due("a part of the TAPE", x.why(8), 0);
        due("the rest is gone", x.count(5), 0);
        for (int i = 1; i < 6; i++) {
            due("why " + i, x.why(0), i);
        }
        feedText(x, "set 5 3;");
        due("a 7th", x.why(8), -1);
        due("the TAPE is empty", x.count(5), 0);
        due("a 7th has no FAULT", x.fault(), -1);
        sevenths();
        cut("set 5 34;", 7, 1, 7);
        cut("sets", 3, 1, 3);
        cut("leak 6 10 from 3;", 12, 1, 10);
        latest();
        fine("");
        fine("   ");
        fine("leak 0 0 from 0;");
        fine("leak7 99from99;");
        fine("  leak  0  00000000000000000000007  from  003  ;  ");
        fine("set 9 999;set 7 9999;set 1 999;set 2 999;set 0 99;set 3 99;set 4 99;set 5 1;set 6 99;set 8 99;");
    }

    /** There are 6, whatever the bytes of a 7th are: it has no FAULT, and its bytes are gone. */
    private static void sevenths() {
        String tooMany = "set 5 3;".repeat(15);
        for (String text : new String[] {"", "set 5 3;", "sat;", "\u0000", "set 5 99;", tooMany}) {
            MastSparks x = new MastSparks();
            due("a FAULT", tell(x, "set 5 0;"), -8);
            for (int i = 0; i < 5; i++) {
                due("why " + i, x.why(0), i);
            }
            due("a FAULT with 5", tell(x, "sat;"), -9);
            due("its place", x.fault(), 0);
            due("the 6th", x.why(0), 5);
            due("a 7th <" + text + ">", tell(x, text), -1);
            due("a 7th <" + text + "> has no FAULT", x.fault(), -1);
            due("the TAPE is empty", x.count(5), 0);
            throwsDue("a 7th of too many bytes", WRONG, () -> x.why(1));
            throwsDue("a 7th of -1 bytes", WRONG, () -> x.why(-1));
            due("six stay", x.count(0), 6);
        }
    }

    /** Bytes behind the first n are no matter. */
    private static void cut(String text, int n, int fault, int place) {
        MastSparks x = new MastSparks();
        feedText(x, text);
        due(n + " bytes of <" + text + ">", x.why(n), fault - 10);
        due("its place", x.fault(), place);
    }

    /** Nothing of an earlier text is left in a later one. */
    private static void latest() {
        MastSparks x = new MastSparks();
        tell(x, "leak 4 10 from 0;leak 5 10 from 0;spark 4 if 1=1;spark 5 if 1=1;oh");
        due("the FAULT", x.fault(), 64);
        due("a short one behind it", tell(x, "leak 4 10 from 0;"), 0);
        due("no FAULT any more", x.fault(), -1);
        due("leaks once", x.state(0, 0, 5), 790);
        due("sparks never", x.run(0, 0), -1);
        String full = "leak 4 1 from 0;".repeat(14);
        due("14 CLAUSES", tell(x, full), 1);
        due("14 leaks", x.state(1, 0, 5), 786);
        due("none", tell(x, ""), 2);
        due("no leaks", x.state(2, 99, 5), 800);
    }

    // Promise 4, FAULT 1
    private static void faultsOfPlace() {
        faultDue(";", 1, 0);
        faultDue("set 5 3;;", 1, 8);
        faultDue("set 5 3", 1, 7);
        faultDue("set 5 3   ", 1, 10);
        faultDue("set 5", 1, 5);
        faultDue("set", 1, 3);
        faultDue("  sett 5 3;", 1, 2);
        faultDue("set5x 3;", 1, 4);
        faultDue("Set 5 3;", 1, 0);
        faultDue("set 5 -3;", 1, 6);
        faultDue("set five 3;", 1, 4);
        faultDue("set 5 3;7", 1, 8);
        faultDue("leak 6 10 for 3;", 1, 10);
        faultDue("leak 6 10 3;", 1, 10);
        faultDue("spark 6 if ;", 1, 11);
        faultDue("spark 6 if", 1, 10);
        faultDue("spark 6 iff gap>1;", 1, 8);
        faultDue("spark 1 if gap;", 1, 14);
        faultDue("spark 1 if gaps>1;", 1, 11);
        faultDue("spark 1 if gapz>1;", 1, 11);
        faultDue("spark 1 if gapa>1;", 1, 11);
        faultDue("spark 1 if gap<=1;", 1, 15);
        faultDue("spark 1 if gap>1 or;", 1, 19);
        faultDue("spark 1 if gap>1 orgap>2;", 1, 17);
        faultDue("spark 1 if gap>1 and or gap>2;", 1, 21);
        faultDue("spark 1 if (gap>1);", 1, 15);
        faultDue("spark 1 if [gap]>1;", 1, 15);
        faultDue("spark 1 if [gap>1;", 1, 17);
        faultDue("spark 1 if (gap+1>1;", 1, 17);
        faultDue("spark 1 if gap>1];", 1, 16);
        faultDue("spark 1 if gap>1);", 1, 16);
        faultDue("spark 1 if gap>not 1;", 1, 15);
        faultDue("spark 1 if gap>-1;", 1, 15);
        faultDue("spark 1 if gap>1>2;", 1, 16);
        faultDue("spark 1 if gap+>1;", 1, 15);
        faultDue("spark 1 if gap**2>1;", 1, 15);
        faultDue("spark 1 if not;", 1, 14);
        faultDue("spark 1 if leak>1;", 1, 11);
        faultDue("spark 1 if gap\t>1;", 1, 14);
    }

    // Promise 4, FAULT 2
    private static void faultsOfNumbers() {
        faultDue("leak 8 10 from 3;", 2, 5);
        faultDue("leak 6 100 from 3;", 2, 7);
        faultDue("leak 6 10 from 100;", 2, 15);
        faultDue("leak 6 10 from 4294967296;", 2, 15);
        faultDue("spark 8 if gap>1;", 2, 6);
        faultDue("spark 1 if gap>10000;", 2, 15);
        faultDue("spark 1 if gap>99999999999999999999;", 2, 15);
        faultDue("set 10 1;", 2, 4);
        faultDue("set 5 0;", 2, 6);
        faultDue("set 5 21;", 2, 6);
        faultDue("set 0 100;", 2, 6);
        faultDue("set 1 1000;", 2, 6);
        faultDue("set 2 1000;", 2, 6);
        faultDue("set 3 100;", 2, 6);
        faultDue("set 4 100;", 2, 6);
        faultDue("set 6 100;", 2, 6);
        faultDue("set 7 10000;", 2, 6);
        faultDue("set 8 100;", 2, 6);
        faultDue("set 9 1000;", 2, 6);
        faultDue("set 10 1000 sat", 2, 4);
        fine("spark 1 if gap>9999;");
    }

    // Promise 4, FAULT 3
    private static void faultsOfLimits() {
        String fourteen = "set 5 3;".repeat(14);
        fine(fourteen + "  ");
        faultDue(fourteen + " set 5 3;", 3, 113);
        faultDue(fourteen + "leak 99", 3, 112);
        faultDue(fourteen + "lea", 1, 112);
        faultDue(fourteen + ";", 1, 112);
        fine("spark 1 if [[[[[[gap>1]]]]]];");
        faultDue("spark 1 if [[[[[[[gap>1]]]]]]];", 3, 17);
        fine("spark 1 if ((((((gap))))))>((((((1))))));");
        faultDue("spark 1 if (((((((gap)))))))>1;", 3, 17);
        fine("spark 1 if not not not not not not gap>1 and not gap>2;");
        faultDue("spark 1 if not not not not not not not gap>1;", 3, 35);
        fine("spark 1 if not [not [not (gap)>1 or not gap>2]];");
        faultDue("spark 1 if not [not [not [[gap>1]]]];", 3, 26);
        faultDue("spark 1 if not [not [not (1+(gap))>1]];", 3, 28);
        fine("spark 1 if [gap>1] and [gap>1] and [gap>1] and [gap>1] and [gap>1] and [gap>1] and [gap>1];");
    }

    /** Whether a condition holds at a SECOND in CELL 3, from which 10 leak each SECOND. */
    private static boolean holdsAt(int second, String condition) {
        String text = "leak 3 10 from 0;spark 3 if second=" + second + " and [" + condition + "];set 6 0;";
        return with(text).run(0, 0) == second;
    }

    private static void holdsDue(String condition, int second, boolean want) {
        due(condition + " at " + second, holdsAt(second, condition) ? 1 : 0, want ? 1 : 0);
    }

    private static void conditions() {
        holdsDue("1<2", 5, true);
        holdsDue("2<2", 5, false);
        holdsDue("2>2", 5, false);
        holdsDue("3>2", 5, true);
        holdsDue("2=2", 5, true);
        holdsDue("2=3", 5, false);
        holdsDue("2+3*4=14", 5, true);
        holdsDue("(2+3)*4=20", 5, true);
        holdsDue("10-3-2=5", 5, true);
        holdsDue("0-1<0", 5, true);
        holdsDue("9999*9999*9999<0", 5, 9999 * 9999 * 9999 < 0);
        holdsDue("9999*9999*9999+0-9999*9999*9999=0", 5, true);
        holdsDue("1=1 or 1=2 and 1=2", 5, true);
        holdsDue("[1=1 or 1=2] and 1=2", 5, false);
        holdsDue("not 1=2 and 1=2", 5, false);
        holdsDue("not [1=2 and 1=2]", 5, true);
        holdsDue("not not 1=1", 5, true);
        due("not", with("leak 3 1 from 0;spark 3 if not 1=2;").run(0, 0), 0);
        due("not", with("leak 3 1 from 0;spark 3 if not 1=1;").run(0, 0), -1);
        due("not not", with("leak 3 1 from 0;spark 3 if not not 1=1;").run(0, 0), 0);
        due("not not", with("leak 3 1 from 0;spark 3 if not not 1=2;").run(0, 0), -1);
        due("not, or", with("leak 3 1 from 0;spark 3 if not 2=2 or not not 1=1;").run(0, 0), 0);
        due("deep", with("leak 3 1 from 0;spark 3 if 1=2 or 1=1 and [1=2 or 1=1 and [1=2 or 1=1 and [1=2 or 1=1 and [1=2 or 1=1"
                + " and 0<1*(1+1*9)]]]];").run(0, 0), 0);
        holdsDue("second=5", 5, true);
        holdsDue("wet=12", 5, true);
        holdsDue("gap=0", 8, true);
        holdsDue("gap=12", 9, true);
        holdsDue("height=90", 5, true);
        holdsDue("mixed=60", 5, true);
        holdsDue("gas=40", 5, true);
        holdsDue("fire=0", 5, true);
        due("fire of an earlier spark in the same SECOND",
                with("leak 2 5 from 0;leak 3 5 from 0;spark 3 if second=4;spark 2 if fire=1;").cell(0, 4, 2, 2), -1);
        MastSparks two = with("leak 2 5 from 0;leak 5 5 from 0;spark 2 if second=7;spark 5 if not fire=1 and second=4;");
        due("the condition of the second spark", two.run(0, 0), 4);
        due("and its CELL", two.run(0, 1), 5);
        due("fire holds on", with("leak 2 5 from 0;spark 2 if second=4;spark 2 if fire>0;").cell(0, 9, 2, 2), 4);
        due("fire is 1", with("leak 2 5 from 0;spark 2 if fire*2=1 or second*fire>3 or second=6;").run(0, 0), 6);
        due("height as it is ahead of sinking",
                with("leak 3 1 from 0;set 7 9999;spark 3 if height=84;").run(0, 0), 1);
    }

    // Promise 5
    private static void weigh() {
        MastSparks x = with("", "");
        due("weigh", x.weigh(0, 99), 10);
        due("weigh", x.weigh(0, 1), 99);
        due("the other", x.weigh(1, 5), 10);
        throwsDue("weigh 0", WRONG, () -> x.weigh(0, 0));
        throwsDue("weigh 100", WRONG, () -> x.weigh(0, 100));
        throwsDue("no such WHY", NO_WHY, () -> x.weigh(2, 5));
        throwsDue("no such WHY", NO_WHY, () -> x.weigh(-1, 5));
        throwsDue("no such WHY goes first", NO_WHY, () -> x.weigh(2, 0));
        due("it stays", x.weigh(0, 7), 1);
    }

    // Promise 6
    private static void set() {
        MastSparks x = with(LEAK_AND_GAP);
        int[] least = {0, 0, 0, 0, 0, 1, 0, 0, 0, 0};
        int[] most = {99, 999, 999, 99, 99, 20, 99, 9999, 99, 999};
        for (int i = 0; i < 10; i++) {
            int which = i;
            int was = x.count(10 + i);
            due("set least " + i, x.set(i, least[i]), was);
            due("set most " + i, x.set(i, most[i]), least[i]);
            throwsDue("set below " + i, WRONG, () -> x.set(which, least[which] - 1));
            throwsDue("set above " + i, WRONG, () -> x.set(which, most[which] + 1));
            due("back " + i, x.set(i, was), most[i]);
        }
        throwsDue("set 10", WRONG, () -> x.set(10, 1));
        throwsDue("set -1", WRONG, () -> x.set(-1, 1));
        due("a RUN ahead of a change", x.run(0, 0), 11);
        x.set(1, 22);
        due("a RUN behind it", x.run(0, 0), 12);
    }

    // Promise 7
    private static void fill() {
        MastSparks x = with(LEAK_AND_GAP);
        due("a RUN ahead of it", x.state(0, 0, 5), 790);
        due("fill", x.fill(7, 999), 100);
        due("a RUN behind it", x.state(0, 0, 5), 1689);
        due("fill", x.fill(7, 0), 999);
        due("nothing leaks", x.run(0, 0), -1);
        throwsDue("fill 1000", WRONG, () -> x.fill(7, 1000));
        throwsDue("fill -1", WRONG, () -> x.fill(7, -1));
        throwsDue("no CELL 8", NO_INDEX, () -> x.fill(8, 1));
        throwsDue("no CELL -1", NO_INDEX, () -> x.fill(-1, 1));
        throwsDue("no CELL goes first", NO_INDEX, () -> x.fill(8, 1000));
    }

    // Promise 8
    private static void state() {
        MastSparks x = with(LEAK_AND_GAP);
        due("wet", x.state(0, 99, 0), 200);
        due("skin", x.state(0, 10, 1), 194);
        due("frame", x.state(0, 10, 2), 170);
        due("frame is 0 at least", x.state(0, 99, 2), 0);
        due("skin is 0 at least", x.state(0, 99, 1), 0);
        due("gap", x.state(0, 22, 3), 158);
        due("gap when frame is empty", x.state(0, 30, 3), 200 - 22 * 3);
        due("HEIGHT", x.state(0, 0, 4), 90);
        due("all gas", x.state(0, 0, 5), 790);
        due("HEAVY", x.state(0, 0, 6), 10);
        due("no fires", x.state(0, 10, 7), 0);
        due("fires", x.state(0, 11, 7), 1);
        due("all fires", x.state(0, 25, 7), 8);
        throwsDue("SECOND 100", WRONG, () -> x.state(0, 100, 0));
        throwsDue("SECOND -1", WRONG, () -> x.state(0, -1, 0));
        throwsDue("what 8", WRONG, () -> x.state(0, 0, 8));
        throwsDue("what -1", WRONG, () -> x.state(0, 0, -1));
        throwsDue("no WHY", NO_WHY, () -> x.state(1, 0, 0));
        throwsDue("no WHY goes first", NO_WHY, () -> x.state(-1, 100, 8));
    }

    // Promise 9
    private static void cell() {
        MastSparks x = with(LEAK_AND_GAP);
        due("gas", x.cell(0, 8, 7, 0), 10);
        due("mixed", x.cell(0, 8, 7, 1), 90);
        due("no fire yet", x.cell(0, 10, 7, 2), -1);
        due("fire", x.cell(0, 11, 7, 2), 11);
        due("fire later on", x.cell(0, 99, 7, 2), 11);
        due("burnt gas", x.cell(0, 13, 6, 0), 80);
        due("nothing mixed in fire", x.cell(0, 11, 7, 1), 0);
        throwsDue("no WHY", NO_WHY, () -> x.cell(1, 0, 0, 0));
        throwsDue("CELL 8", NO_INDEX, () -> x.cell(0, 0, 8, 0));
        throwsDue("CELL -1", NO_INDEX, () -> x.cell(0, 0, -1, 0));
        throwsDue("SECOND 100", WRONG, () -> x.cell(0, 100, 0, 0));
        throwsDue("SECOND -1", WRONG, () -> x.cell(0, -1, 0, 0));
        throwsDue("what 3", WRONG, () -> x.cell(0, 0, 0, 3));
        throwsDue("what -1", WRONG, () -> x.cell(0, 0, 0, -1));
        due("SECOND 0", x.cell(0, 0, 7, 1), 10);
        due("SECOND 99", x.cell(0, 99, 7, 1), 0);
        throwsDue("WHY, CELL, SECOND", NO_WHY, () -> x.cell(1, 100, 8, 3));
        throwsDue("CELL, SECOND", NO_INDEX, () -> x.cell(0, 100, 8, 3));
    }

    // Promise 10, (c)
    private static void runLeaks() {
        MastSparks x = with("leak 2 30 from 4;leak 2 50 from 5;leak 2 50 from 5;");
        due("ahead of its SECOND", x.cell(0, 3, 2, 1), 0);
        due("from its SECOND on", x.cell(0, 4, 2, 1), 30);
        due("all that there is", x.cell(0, 5, 2, 1), 100);
        due("none is left", x.cell(0, 5, 2, 0), 0);
        due("no spark", x.run(0, 0), -1);
        due("no CELL", x.run(0, 1), -1);
        due("never DOWN", x.run(0, 2), -1);
        due("never LASTED", x.run(0, 3), -1);
        throwsDue("what 4", WRONG, () -> x.run(0, 4));
        throwsDue("what -1", WRONG, () -> x.run(0, -1));
        throwsDue("no WHY", NO_WHY, () -> x.run(1, 0));
        throwsDue("no WHY goes first", NO_WHY, () -> x.run(1, 4));
    }

    // Promise 10, (d) and BEGAN
    private static void runSparks() {
        MastSparks x = with("spark 3 if 1=1;", "leak 3 0 from 0;spark 3 if 1=1;",
                "leak 5 9 from 3;leak 2 9 from 3;spark 5 if 1=1;spark 2 if 1=1;",
                "spark 2 if 1=1;leak 2 9 from 3;", "set 2 100;set 2 300;set 2 250;");
        due("nothing mixed", x.run(0, 0), -1);
        due("a leak of nothing", x.run(1, 0), -1);
        due("BEGAN", x.run(2, 0), 3);
        due("of several the least", x.run(2, 1), 2);
        due("leaks go ahead of sparks", x.run(3, 0), 3);
        MastSparks later = with("leak 5 9 from 3;leak 2 9 from 3;spark 5 if second>3;spark 2 if second>4;");
        due("BEGAN in another CELL", later.run(0, 1), 5);
        due("the last set counts", x.state(4, 0, 1), 250);
    }

    // Promise 10, (e) and (f)
    private static void runFire() {
        MastSparks x = with("leak 3 10 from 2;spark 3 if 1=1;set 5 3;");
        due("beside, too early", x.cell(0, 4, 2, 2), -1);
        due("beside", x.cell(0, 5, 2, 2), 5);
        due("beside on the other side", x.cell(0, 5, 4, 2), 5);
        due("not two at once", x.cell(0, 7, 1, 2), -1);
        due("then the next", x.cell(0, 8, 1, 2), 8);
        due("leak and fire", x.cell(0, 2, 3, 0), 70);
        due("leak and fire again", x.cell(0, 3, 3, 0), 40);
        due("0 at least", x.cell(0, 5, 3, 0), 0);
        MastSparks y = with("leak 3 10 from 2;spark 3 if 1=1;set 5 1;set 6 0;");
        due("SPREAD 1", y.cell(0, 3, 4, 2), 3);
        due("SPREAD 1 goes on", y.cell(0, 6, 7, 2), 6);
        due("BURN 0", y.cell(0, 99, 7, 0), 100);
    }

    // Promise 10, (g), DOWN and LASTED
    private static void runDown() {
        MastSparks x = with("set 7 800;", "set 7 801;set 9 11;", "leak 0 1 from 50;spark 0 if 1=1;set 7 801;set 9 7;",
                "leak 0 1 from 1;spark 0 if 1=1;set 7 801;set 9 7;", "set 9 0;", "set 7 801;set 8 0;");
        due("not below LIFT", x.run(0, 2), -1);
        due("below LIFT", x.run(1, 2), 1);
        due("0 at least", x.state(1, 1, 4), 0);
        due("DOWN ahead of BEGAN", x.run(2, 2), 1);
        due("BEGAN behind DOWN", x.run(2, 0), 50);
        due("LASTED is none", x.run(2, 3), -1);
        due("LASTED 0", x.run(3, 3), 0);
        due("HEIGHT 0 at first, but held", x.run(4, 2), -1);
        due("SINK 0", x.run(5, 2), -1);
        due("all goes on behind DOWN", x.state(2, 60, 7), 6);
        downHeld();
    }

    /** All of (g) asks for gas below LIFT: HEIGHT 0 alone is not DOWN. */
    private static void downHeld() {
        MastSparks x = with("", "set 7 801;", "leak 3 20 from 7;set 7 780;", "leak 3 20 from 7;set 7 781;set 8 0;",
                "leak 3 20 from 7;spark 3 if second>4;set 7 750;", "set 7 800;");
        x.set(9, 0);
        due("held", x.run(0, 2), -1);
        due("HEIGHT 0 all the same", x.state(0, 0, 4), 0);
        due("not held", x.run(1, 2), 0);
        due("held from the second leak on", x.run(2, 2), 8);
        due("SINK 0 is no matter", x.run(3, 2), 7);
        due("BEGAN ahead of it", x.run(4, 0), 7);
        due("held for a while by what burns", x.run(4, 2), 8);
        due("LASTED", x.run(4, 3), 1);
        due("LIFT itself", x.run(5, 2), -1);
        x.row(2, 0, 0, 0, 0);
        due("a ROW of it, held", x.says(0, 0) ? 1 : 0, 0);
        due("a ROW of it, not held", x.says(1, 0) ? 1 : 0, 1);
        due("SAFE by LASTED", x.safe(4, 0, 2) ? 1 : 0, 0);
        x.option(7, 0, 1);
        due("a set goes behind it", x.safe(4, 1, 2) ? 1 : 0, 0);
    }

    // Promise 11
    private static void row() {
        MastSparks x = new MastSparks();
        throwsDue("kind 6", WRONG, () -> x.row(6, 0, 0, 0, 0));
        throwsDue("kind -1", WRONG, () -> x.row(-1, 0, 0, 0, 0));
        int[] least = {0, 0, 0, -9999, 0, -9999};
        int[] most = {1, 7, 99, 9999, 99, 9999};
        for (int i = 0; i < 6; i++) {
            int kind = i;
            throwsDue("SECOND 100 of " + i, WRONG, () -> x.row(kind, 100, 0, 0, 0));
            throwsDue("SECOND -1 of " + i, WRONG, () -> x.row(kind, -1, 0, 0, 0));
            throwsDue("CELL 8 of " + i, WRONG, () -> x.row(kind, 0, 8, 0, 0));
            throwsDue("CELL -1 of " + i, WRONG, () -> x.row(kind, 0, -1, 0, 0));
            throwsDue("w 9 of " + i, WRONG, () -> x.row(kind, 0, 0, 0, 9));
            throwsDue("w -1 of " + i, WRONG, () -> x.row(kind, 0, 0, 0, -1));
            throwsDue("v below of " + i, WRONG, () -> x.row(kind, 0, 0, least[kind] - 1, 0));
            throwsDue("v above of " + i, WRONG, () -> x.row(kind, 0, 0, most[kind] + 1, 0));
        }
        for (int i = 0; i < 5; i++) {
            due("least v " + i, x.row(i, 0, 0, least[i], 0), 2 * i);
            due("most v " + i, x.row(i, 99, 7, most[i], 8), 2 * i + 1);
        }
        due("an 11th", x.row(0, 0, 0, 0, 0), -1);
        throwsDue("an 11th that is none", WRONG, () -> x.row(0, 0, 0, 2, 0));
        due("ten stay", x.count(1), 10);
    }

    // Promise 12
    private static void asked() {
        MastSparks x = with(LEAK_AND_GAP);
        x.row(0, 11, 7, 1, 2);
        due("odds", x.odds(0), 140);
        due("9 years", x.asked(0, 9), 2);
        due("10 years", x.asked(0, 10), 3);
        due("they count", x.odds(0), 130);
        x.image();
        x.row(0, 11, 7, 1, 0);
        x.asked(1, 80);
        due("of each ROW", x.odds(0), 1040);
        x.restore();
        x.row(0, 11, 7, 1, 0);
        due("0 at first", x.odds(0), 130 * 16);
    }

    private static void askedOnAndOn() {
        MastSparks x = with(LEAK_AND_GAP);
        x.row(0, 11, 7, 1, 2);
        due("59 years", x.asked(0, 59), 7);
        due("60 years", x.asked(0, 60), 8);
        due("8 at most", x.asked(0, 99), 8);
        due("not on top of the years before", x.asked(0, 20), 4);
        due("0 years", x.asked(0, 0), 2);
        due("odds again", x.odds(0), 140);
        throwsDue("years 100", WRONG, () -> x.asked(0, 100));
        throwsDue("years -1", WRONG, () -> x.asked(0, -1));
        throwsDue("no ROW", NO_INDEX, () -> x.asked(1, 0));
        throwsDue("no ROW", NO_INDEX, () -> x.asked(-1, 0));
        throwsDue("no ROW goes first", NO_INDEX, () -> x.asked(1, 100));
    }

    private static void saysDue(MastSparks x, int kind, int second, int cell, int v, boolean want) {
        x.image();
        int row = x.row(kind, second, cell, v, 1);
        due("kind " + kind + " at " + second + " in " + cell + " of " + v, x.says(0, row) ? 1 : 0, want ? 1 : 0);
        x.restore();
    }

    // Promise 13
    private static void says() {
        MastSparks x = with(LEAK_AND_GAP);
        x.set(6, 99);
        x.set(7, 650);
        x.set(8, 30);
        due("DOWN", x.run(0, 2), 15);
        due("LASTED", x.run(0, 3), 4);
        saysDue(x, 0, 11, 7, 1, true);
        saysDue(x, 0, 11, 7, 0, false);
        saysDue(x, 0, 10, 7, 1, false);
        saysDue(x, 0, 10, 7, 0, true);
        saysDue(x, 1, 0, 0, 7, true);
        saysDue(x, 1, 0, 0, 6, false);
        for (int v = 13; v <= 17; v++) {
            saysDue(x, 2, 0, 0, v, v >= 14 && v <= 16);
        }
        saysDue(x, 3, 0, 0, 10, true);
        saysDue(x, 3, 0, 0, 11, false);
        saysDue(x, 3, 0, 0, -9999, true);
        for (int v = 2; v <= 6; v++) {
            saysDue(x, 4, 0, 0, v, v >= 3 && v <= 5);
        }
        saysDue(x, 5, 9, 0, 12, true);
        saysDue(x, 5, 9, 0, 13, false);
        MastSparks none = with("");
        saysDue(none, 0, 0, 0, 0, true);
        saysDue(none, 1, 0, 0, 0, false);
        saysDue(none, 2, 0, 0, 0, false);
        saysDue(none, 4, 0, 0, 0, false);
        MastSparks sunk = with("set 7 801;set 9 1;");
        saysDue(sunk, 2, 0, 0, 1, true);
        saysDue(sunk, 4, 0, 0, 0, false);
        throwsDue("no ROW", NO_INDEX, () -> x.says(0, 0));
        throwsDue("no ROW", NO_INDEX, () -> x.says(0, -1));
        throwsDue("no WHY", NO_WHY, () -> x.says(1, 0));
    }

    // Promises 14 and 15
    private static void oddsAndShare() {
        MastSparks x = with(LEAK_AND_GAP, "", LEAK_AND_GAP);
        x.weigh(2, 99);
        for (int i = 0; i < 10; i++) {
            x.row(0, 11, 7, 1, 0);
        }
        due("odds", x.odds(0), 10L << 40);
        due("odds of 0", x.odds(1), 0);
        due("greatest odds", x.odds(2), 99L << 40);
        due("cut", x.share(0), 91);
        due("share of 0", x.share(1), 0);
        due("share", x.share(2), 908);
        for (int i = 0; i < 10; i++) {
            x.before(2, 200);
        }
        due("odds by landings", x.odds(2), 99L << 30);
        due("still as many", x.share(2), 908);
        MastSparks z = with(LEAK_AND_GAP, "");
        z.before(2, 200);
        due("share by landings", z.share(0), 5 * 1000 / 15);
        MastSparks y = with(LEAK_AND_GAP);
        y.before(2, 200);
        y.before(2, 200);
        due("cut by two twice", y.odds(0), 2);
        y.row(0, 11, 7, 0, 0);
        due("all are 0", y.share(0), 0);
        due("and the odds", y.odds(0), 0);
        throwsDue("no WHY", NO_WHY, () -> y.odds(1));
        throwsDue("no WHY", NO_WHY, () -> y.odds(-1));
        throwsDue("no WHY", NO_WHY, () -> y.share(1));
        throwsDue("no WHY", NO_WHY, () -> y.share(-1));
    }

    // Promises 16 and 17
    private static void bestAndMoved() {
        due("best of none", new MastSparks().best(), -1);
        MastSparks x = with("", LEAK_AND_GAP, LEAK_AND_GAP);
        due("first of the same", x.best(), 0);
        x.row(0, 11, 7, 1, 2);
        due("best", x.best(), 1);
        due("moved up", x.moved(1, 0), 466 - 333);
        due("moved down", x.moved(0, 0), 66 - 333);
        x.before(2, 200);
        x.before(2, 200);
        x.before(2, 200);
        due("best by landings", x.best(), 0);
        due("moved with landings", x.moved(0, 0), 20 * 1000 / 54 - 10 * 1000 / 12);
        x.row(0, 11, 7, 1, 0);
        x.weigh(1, 1);
        x.weigh(2, 1);
        due("moved where all are else", x.moved(0, 1), 0 - 20 * 1000 / 22);
        throwsDue("no WHY", NO_WHY, () -> x.moved(3, 0));
        throwsDue("no ROW", NO_INDEX, () -> x.moved(0, 2));
        throwsDue("no ROW", NO_INDEX, () -> x.moved(0, -1));
        throwsDue("no WHY goes first", NO_WHY, () -> x.moved(-1, 2));
    }

    // Promise 18
    private static void inquiry() {
        due("BEST of none", new MastSparks().inquiry(0, -1), -1);
        MastSparks x = with(LEAK_AND_GAP, "");
        x.row(0, 11, 7, 1, 2);
        x.row(0, 11, 7, 0, 0);
        x.before(2, 200);
        due("none of them", x.inquiry(0, 0), 500);
        due("the first", x.inquiry(1, 0), 875);
        due("the second", x.inquiry(2, 0), 0);
        due("both", x.inquiry(3, 1), 1000);
        due("BEST by the first", x.inquiry(1, -1), 0);
        due("BEST by the second", x.inquiry(2, -1), 1);
        x.weigh(1, 99);
        due("by WEIGHTS, too", x.inquiry(0, -1), 1);
        x.asked(0, 60);
        due("by years, too", x.inquiry(1, 0), 91);
        throwsDue("bits of no ROW", WRONG, () -> x.inquiry(4, 0));
        throwsDue("negative bits", WRONG, () -> x.inquiry(-1, 0));
        throwsDue("bits of no ROW with NONE", WRONG, () -> x.inquiry(4, -1));
        throwsDue("no WHY", NO_WHY, () -> x.inquiry(0, 2));
        throwsDue("no WHY", NO_WHY, () -> x.inquiry(0, -2));
        throwsDue("no WHY goes first", NO_WHY, () -> x.inquiry(4, 2));
    }

    // Promises 19 and 20
    private static void beforeAndBurnt() {
        MastSparks x = with(LEAK_AND_GAP, LEAK_AND_GAP + "set 0 2;set 2 200;", "", AT_ONCE);
        due("burnt by none", x.burnt(3), 0);
        due("before", x.before(0, 200), 1);
        due("dry ropes", x.burnt(0), 0);
        due("sets go first", x.burnt(1), 1);
        due("before", x.before(99, 999), 2);
        due("before", x.before(99, 0), 3);
        due("wet and charged", x.burnt(0), 1);
        due("by sets", x.burnt(1), 3);
        due("by nothing", x.burnt(2), 0);
        due("at once", x.burnt(3), 3);
        x.fill(0, 0);
        due("by the GAS of now", x.burnt(3), 0);
        x.set(1, 0);
        due("by the other numbers of now", x.burnt(0), 2);
        due("the LANDING stays", x.count(10), 2);
        throwsDue("RAIN 100", WRONG, () -> x.before(100, 0));
        throwsDue("RAIN -1", WRONG, () -> x.before(-1, 0));
        throwsDue("CHARGE 1000", WRONG, () -> x.before(0, 1000));
        throwsDue("CHARGE -1", WRONG, () -> x.before(0, -1));
        throwsDue("no WHY", NO_WHY, () -> x.burnt(4));
        throwsDue("no WHY", NO_WHY, () -> x.burnt(-1));
        for (int i = 4; i <= 10; i++) {
            due("before " + i, x.before(0, 0), i);
        }
        due("an 11th", x.before(0, 0), -1);
        throwsDue("an 11th that is none", WRONG, () -> x.before(100, 0));
        due("ten stay", x.count(2), 10);
    }

    /** DOWN at 15, LASTED 4. */
    private static MastSparks lastedFour() {
        MastSparks x = with(LEAK_AND_GAP + "set 8 30;");
        x.set(6, 99);
        x.set(7, 650);
        return x;
    }

    // Promises 21 and 22
    private static void options() {
        MastSparks x = lastedFour();
        due("safe for as long", x.safe(0, 0, 4) ? 1 : 0, 1);
        due("not for longer", x.safe(0, 0, 5) ? 1 : 0, 0);
        due("safe for 0", x.safe(0, 0, 0) ? 1 : 0, 1);
        due("not for 99", x.safe(0, 0, 99) ? 1 : 0, 0);
        due("option", x.option(0, 0, 50), 0);
        due("option", x.option(0, 2, 999), 1);
        due("option", x.option(8, 0, 0), 2);
        due("no rain", x.safe(0, 1, 99) ? 1 : 0, 1);
        due("the later one counts", x.safe(0, 3, 5) ? 1 : 0, 0);
        due("sets go behind options", x.safe(0, 4, 5) ? 1 : 0, 0);
        MastSparks y = with("leak 0 99 from 0;spark 0 if second=0;set 7 9999;",
                "leak 0 99 from 0;spark 0 if second=50;set 7 9999;set 8 1;set 9 101;",
                "leak 0 99 from 0;spark 0 if second=50;set 7 9999;set 8 1;set 9 100;");
        due("fire in SECOND 0", y.safe(0, 0, 14) ? 1 : 0, 1);
        due("fire in SECOND 0", y.safe(0, 0, 15) ? 1 : 0, 0);
        due("not DOWN by SECOND 99", y.safe(1, 0, 99) ? 1 : 0, 1);
        due("DOWN in SECOND 99", y.safe(2, 0, 50) ? 1 : 0, 0);
        due("DOWN in SECOND 99", y.safe(2, 0, 49) ? 1 : 0, 1);
        due("the LANDING stays", x.count(10), 2);
        throwsDue("bits of no OPTION", WRONG, () -> x.safe(0, 8, 1));
        throwsDue("negative bits", WRONG, () -> x.safe(0, -1, 1));
        throwsDue("SECONDS 100", WRONG, () -> x.safe(0, 0, 100));
        throwsDue("SECONDS -1", WRONG, () -> x.safe(0, 0, -1));
        throwsDue("no WHY", NO_WHY, () -> x.safe(1, 0, 0));
        throwsDue("no WHY goes first", NO_WHY, () -> x.safe(1, 8, 100));
        throwsDue("which 10", WRONG, () -> x.option(10, 0, 0));
        throwsDue("which -1", WRONG, () -> x.option(-1, 0, 0));
        throwsDue("v", WRONG, () -> x.option(5, 0, 0));
        throwsDue("v", WRONG, () -> x.option(5, 21, 0));
        throwsDue("COST 1000", WRONG, () -> x.option(5, 1, 1000));
        throwsDue("COST -1", WRONG, () -> x.option(5, 1, -1));
        due("option", x.option(5, 1, 1), 3);
        due("option", x.option(5, 20, 1), 4);
        due("a 6th", x.option(5, 20, 1), -1);
        throwsDue("a 6th that is none", WRONG, () -> x.option(5, 0, 1));
        due("five stay", x.count(3), 5);
    }

    // Promises 23 and 24
    private static void leastAndAll() {
        due("all of none", new MastSparks().all(99), 0);
        MastSparks x = lastedFour();
        due("nothing needed", x.least(0, 4), 0);
        due("nothing for 0", x.least(0, 0), 0);
        due("nothing for all for 0", x.all(0), 0);
        due("a cost of 0", x.all(4), 0);
        due("by none", x.least(0, 5), -1);
        due("all by none", x.all(5), -1);
        x.option(0, 0, 50);
        x.option(2, 0, 20);
        x.option(1, 999, 20);
        due("the least COST, first by bits", x.least(0, 5), 2);
        due("all", x.all(5), 2);
        x.option(9, 999, 0);
        due("a free one", x.least(0, 5), 8);
        due("the free one alone does not hold for long", x.least(0, 99), 2);
        tell(x, "leak 0 99 from 0;spark 0 if wet>199;set 2 1;set 7 9999;set 8 99;set 9 99;");
        due("DOWN ahead of BEGAN", x.run(1, 3), -1);
        tell(x, "leak 0 99 from 0;spark 0 if wet>1;set 7 9999;");
        due("LASTED", x.run(2, 3), 14);
        due("the third is never DOWN from so high", x.least(2, 15), 8);
        due("all, for a while", x.all(15), 8);
        due("all, for longer, need two", x.all(99), 10);
        due("six", tell(x, "") + tell(x, "") + tell(x, ""), 3 + 4 + 5);
        due("all six", x.all(99), 10);
        throwsDue("SECONDS 100", WRONG, () -> x.least(0, 100));
        throwsDue("SECONDS -1", WRONG, () -> x.least(0, -1));
        throwsDue("no WHY", NO_WHY, () -> x.least(6, 0));
        throwsDue("no WHY goes first", NO_WHY, () -> x.least(6, 100));
        throwsDue("SECONDS 100", WRONG, () -> x.all(100));
        throwsDue("SECONDS -1", WRONG, () -> x.all(-1));
    }

    // Promise 25
    private static void next() {
        due("next of none", new MastSparks().next(0), -1);
        throwsDue("SECOND goes first", WRONG, () -> new MastSparks().next(100));
        MastSparks x = with(LEAK_AND_GAP, "leak 2 10 from 0;spark 2 if gap>30;", "leak 2 10 from 0;spark 2 if gap>30;");
        due("all alike", x.next(5), 0);
        due("the first that parts them", x.next(11), 2);
        x.weigh(1, 1);
        due("all parts as great", x.next(11), 2);
        due("greater parts", x.next(13), 1);
        x.row(0, 11, 2, 1, 0);
        due("by ODDS", x.next(11), 0);
        throwsDue("SECOND -1", WRONG, () -> x.next(-1));
        MastSparks y = with("leak 4 1 from 0;spark 4 if 1=1;", "leak 5 1 from 0;spark 5 if 1=1;", "");
        y.weigh(0, 30);
        y.weigh(1, 50);
        due("the least of the greater", y.next(0), 5);
        due("SECOND 99", y.next(99), 0);
        MastSparks z = with("leak 4 1 from 0;spark 4 if wet>0;", "leak 5 1 from 0;spark 5 if 1=1;", "");
        z.weigh(0, 20);
        z.weigh(1, 15);
        due("without landings", z.next(0), 4);
        z.weigh(1, 30);
        z.weigh(2, 10);
        due("still without", z.next(0), 5);
        for (int i = 0; i < 5; i++) {
            z.before(0, 0);
        }
        due("with landings", z.next(0), 4);
        due("six", tell(z, "") + tell(z, "") + tell(z, ""), 3 + 4 + 5);
        due("next of six", z.next(0), 4);
    }

    // Promise 26
    private static void parted() {
        MastSparks x = with("", "set 0 99;", "leak 3 1 from 40;", "leak 3 1 from 41;", "set 9 91;",
                "leak 3 1 from 41;spark 3 if second>49;");
        due("itself", x.parted(2, 2), -1);
        due("wet is no matter", x.parted(0, 1), -1);
        due("gas and mixed", x.parted(2, 3), 40);
        due("the other way", x.parted(3, 2), 40);
        due("HEIGHT", x.parted(0, 4), 0);
        due("fire", x.parted(3, 5), 50);
        throwsDue("no WHY", NO_WHY, () -> x.parted(6, 0));
        throwsDue("no other", NO_WHY, () -> x.parted(0, 6));
        throwsDue("no other", NO_WHY, () -> x.parted(0, -1));
        MastSparks y = with("leak 3 9 from 0;spark 3 if 1=1;set 6 0;", "leak 3 9 from 0;spark 3 if 1=1;set 5 3;set 6 0;");
        due("fire alone", y.parted(0, 1), 2);
        MastSparks z = with("leak 0 9 from 0;spark 0 if second=4;set 6 9;", "leak 0 9 from 0;spark 0 if second=4;set 6 8;",
                "leak 0 9 from 3;", "leak 0 9 from 4;", "set 9 80;set 7 800;leak 5 1 from 9;", "set 9 80;leak 5 1 from 9;");
        due("gas alone", z.parted(0, 1), 4);
        due("CELL 0", z.parted(2, 3), 3);
        due("HEIGHT behind a while", z.parted(4, 5), 9);
    }

    // Promise 27
    private static void order() {
        MastSparks x = with("leak 3 9 from 0;spark 3 if 1=1;", "", "leak 3 9 from 0;spark 3 if second=98;");
        int[] due = {3, 2, 4, 1, 5, 0, 6, 7};
        for (int k = 0; k < 8; k++) {
            due("order " + k, x.order(0, k), due[k]);
        }
        due("order 8", x.order(0, 8), -1);
        due("order -1", x.order(0, -1), -1);
        due("no fire", x.order(1, 0), -1);
        due("one fire", x.order(2, 0), 3);
        due("one fire alone", x.order(2, 1), -1);
        throwsDue("no WHY", NO_WHY, () -> x.order(3, 0));
        throwsDue("no WHY", NO_WHY, () -> x.order(-1, 0));
    }

    // Promise 28
    private static void dry() {
        MastSparks x = with(LEAK_AND_GAP, AT_ONCE, "", LEAK_AND_GAP + "set 1 20;", LEAK_AND_GAP + "set 1 999;",
                "leak 7 10 from 0;spark 7 if gap=12 and second=40;");
        due("dry", x.dry(0), 197);
        due("the LANDING stays", x.count(11), 20);
        due("burns by no rope", x.dry(1), -1);
        due("never burns", x.dry(2), 0);
        due("sets LEADS and burns", x.dry(3), -1);
        due("sets LEADS and does not", x.dry(4), 0);
        due("not only the greatest", x.dry(5), 0);
        due("fire in the SECOND from which they lead", with("leak 7 10 from 0;spark 7 if gap>0 and second<50;").dry(0), 101);
        due("great LEADS", with("leak 7 10 from 0;spark 7 if gap>0 and second<99;set 0 10;").dry(0), 991);
        x.set(0, 0);
        due("no rain", x.dry(0), 1);
        x.set(0, 1);
        due("a little rain", x.dry(0), 99);
        x.set(0, 99);
        due("too much rain", x.dry(0), -1);
        x.set(0, 10);
        due("rain", x.dry(0), 981);
        throwsDue("no WHY", NO_WHY, () -> x.dry(6));
        throwsDue("no WHY", NO_WHY, () -> x.dry(-1));
    }

    // Promises 29 and 30
    private static void images() {
        MastSparks x = with(LEAK_AND_GAP);
        due("none to restore", x.restore(), -1);
        x.row(0, 11, 7, 1, 2);
        x.asked(0, 10);
        x.before(2, 200);
        x.option(0, 0, 5);
        x.weigh(0, 20);
        due("image", x.image(), 1);
        long odds = x.odds(0);
        x.set(0, 50);
        x.fill(3, 7);
        x.row(1, 0, 0, 3, 2);
        x.asked(0, 90);
        x.before(9, 9);
        x.option(1, 0, 5);
        x.weigh(0, 30);
        tell(x, AT_ONCE);
        x.weigh(1, 40);
        feedText(x, "set");
        due("image", x.image(), 2);
        x.weigh(1, 50);
        due("image", x.image(), 3);
        due("a 4th", x.image(), -1);
        due("images", x.count(4), 3);
        due("restore", x.restore(), 2);
        due("the latest", x.weigh(1, 60), 50);
        due("restore", x.restore(), 1);
        due("the one before", x.weigh(1, 60), 40);
        due("restore", x.restore(), 0);
        due("a WHY told since stays", x.count(0), 2);
        due("and has its first WEIGHT", x.weigh(1, 10), 10);
        due("WEIGHT", x.weigh(0, 20), 20);
        due("RAIN", x.count(10), 2);
        due("ROWS", x.count(1), 1);
        due("LANDINGS", x.count(2), 1);
        due("OPTIONS", x.count(3), 1);
        due("the TAPE stays", x.count(5), 20);
        due("RUN", x.run(0, 0), 11);
        due("years", x.odds(0), odds);
        due("GAS", x.fill(3, 100), 100);
        due("none is left", x.restore(), -1);
        x.image();
        x.set(1, 22);
        due("a RUN of now", x.run(0, 0), 12);
        x.restore();
        due("a RUN of the IMAGE", x.run(0, 0), 11);
    }

    // Promise 31
    private static void count() {
        MastSparks x = with("", "");
        x.row(0, 0, 0, 0, 0);
        x.before(0, 0);
        x.before(0, 0);
        x.option(0, 0, 0);
        x.image();
        x.feed(0, 0, 0, 0, 0);
        int[] due = {2, 1, 2, 1, 1, 20};
        for (int i = 0; i < 6; i++) {
            due("count " + i, x.count(i), due[i]);
        }
        for (int i = 0; i < 10; i++) {
            x.set(i, i + 1);
            due("count " + (10 + i), x.count(10 + i), i + 1);
        }
        int[] others = {-1, 6, 9, 20, Integer.MAX_VALUE, Integer.MIN_VALUE};
        for (int what : others) {
            due("count " + what, x.count(what), -1);
        }
    }
}
