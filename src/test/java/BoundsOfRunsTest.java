/** The boundary cases of a RUN: the document's part 2, and promises 7 to 10 and 26 to 28. */
public final class BoundsOfRunsTest extends Checks {
    private static final String AT_ONCE_3 = "leak 3 1 from 0;spark 3 if 1=1;";

    public static void main(String[] args) {
        firstAndLastSecond();
        lastSetCounts();
        atFirst();
        wetOrMore();
        wetAtTheEdges();
        chargeIsNoLess();
        gapBelowNone();
        leaksFrom();
        leaksAllThatThereIs();
        gasOfACell();
        somethingMixed();
        sparksByNow();
        fireBeginsOnce();
        spreadOrMore();
        spreadEnds();
        spreadOfThisSecond();
        burnsToNone();
        nothingMixedInFire();
        belowLift();
        sinksToNone();
        downFirstTime();
        began();
        lasted();
        heavy();
        fires();
        secondsAsked();
        whatAsked();
        parted();
        partedEdges();
        order();
        dryEdges();
        dryBySets();
        end("BoundsOfRunsTest");
    }

    /** "SECONDS 0 to 99". */
    private static void firstAndLastSecond() {
        MastSparks x = with("leak 3 1 from 0;spark 3 if second=0;", "leak 3 1 from 0;spark 3 if second=99;",
                "leak 3 1 from 0;spark 3 if second=100;", "leak 3 1 from 0;spark 3 if second<0;",
                "set 7 9999;set 8 1;set 9 100;", "set 7 9999;set 8 1;set 9 101;");
        due("fire in SECOND 0", x.run(0, 0), 0);
        due("fire in SECOND 99", x.run(1, 0), 99);
        due("there is no SECOND 100", x.run(2, 0), NONE);
        due("nor one ahead of 0", x.run(3, 0), NONE);
        due("DOWN in SECOND 99", x.run(4, 2), 99);
        due("one higher is never DOWN", x.run(5, 2), NONE);
        due("but 1 above", x.state(5, 99, 4), 1);
        due("DOWN in SECOND 0", with("set 7 9999;set 8 99;set 9 99;").run(0, 2), 0);
    }

    /** "with the LANDING's numbers, but as its sets say (the last of a number counts)". */
    private static void lastSetCounts() {
        MastSparks x = with("set 9 10;set 9 0;set 9 55;", "leak 3 1 from 0;set 9 44;spark 3 if height=33;set 9 33;", "");
        x.set(9, 66);
        due("the last of three", x.state(0, 0, 4), 55);
        due("from SECOND 0 on, wherever it stands", x.run(1, 0), 0);
        due("the LANDING's without a set", x.state(2, 0, 4), 66);
        due("a set is of its WHY alone", x.count(19), 66);
    }

    /** "At first: wet 0; skin and frame CHARGE each; CELLS with their GAS, nothing mixed, no fire; HEIGHT". */
    private static void atFirst() {
        MastSparks x = with("set 0 0;", "");
        due("wet", x.state(0, 0, 0), 0);
        due("wet by RAIN", x.state(1, 0, 0), 2);
        due("skin", x.state(0, 0, 1), 200);
        due("frame", x.state(0, 0, 2), 200);
        due("gap", x.state(0, 0, 3), 0);
        due("HEIGHT", x.state(0, 0, 4), 90);
        due("all gas", x.state(0, 0, 5), 800);
        due("fires", x.state(0, 0, 7), 0);
        for (int i = 0; i < 8; i++) {
            due("gas of " + i, x.cell(0, 0, i, 0), 100);
            due("mixed of " + i, x.cell(0, 0, i, 1), 0);
            due("fire of " + i, x.cell(0, 0, i, 2), NONE);
        }
    }

    /** (b) "If wet is LEADS or more". */
    private static void wetOrMore() {
        MastSparks x = with("set 1 19;", "set 1 20;", "set 1 21;");
        due("more than LEADS", x.state(0, 9, 2), 185);
        due("less than that a SECOND before", x.state(0, 8, 2), 200);
        due("LEADS itself", x.state(1, 9, 2), 185);
        due("less than LEADS", x.state(1, 8, 2), 200);
        due("one less than LEADS", x.state(2, 9, 2), 200);
        due("then more", x.state(2, 10, 2), 185);
    }

    /** (b) with the least and the most of RAIN and LEADS. */
    private static void wetAtTheEdges() {
        MastSparks x = with("set 0 0;set 1 0;", "set 0 0;set 1 1;", "set 0 10;set 1 999;", "set 0 9;set 1 999;",
                "set 0 99;set 1 99;", "set 0 99;set 1 100;");
        due("no RAIN, but LEADS 0", x.state(0, 0, 2), 185);
        due("no RAIN, LEADS 1", x.state(1, 99, 2), 200);
        due("990 is not 999", x.state(2, 98, 2), 200);
        due("1,000 is more than 999", x.state(2, 99, 2), 185);
        due("900 at the end", x.state(3, 99, 2), 200);
        due("RAIN 99, LEADS 99", x.state(4, 0, 2), 185);
        due("RAIN 99, LEADS 100", x.state(5, 0, 2), 200);
        due("RAIN 99 at the end", x.state(5, 99, 0), 9900);
    }

    /** (b) "frame is FRAME less, skin SKIN less (0 at least each)". */
    private static void chargeIsNoLess() {
        MastSparks x = with("set 1 0;set 2 99;set 3 99;set 4 98;", "set 1 0;set 2 98;set 3 99;set 4 97;",
                "set 1 0;set 2 100;set 3 99;set 4 99;", "set 1 0;set 2 0;set 3 99;set 4 99;",
                "set 1 0;set 2 999;set 3 0;set 4 0;", "set 1 0;set 2 99;set 3 98;set 4 99;");
        due("frame to 0", x.state(0, 0, 2), 0);
        due("skin to 1", x.state(0, 0, 1), 1);
        due("then 0", x.state(0, 1, 1), 0);
        due("frame not below 0", x.state(1, 0, 2), 0);
        due("skin of 98 less 97", x.state(1, 0, 1), 1);
        due("1 of it left", x.state(2, 0, 2), 1);
        due("skin, too", x.state(2, 0, 1), 1);
        due("not below 0", x.state(2, 1, 2), 0);
        due("skin, too", x.state(2, 1, 1), 0);
        due("from 0 on", x.state(3, 99, 2), 0);
        due("skin, too", x.state(3, 99, 1), 0);
        due("nothing less", x.state(4, 99, 2), 999);
        due("skin, too", x.state(4, 99, 1), 999);
        due("skin to 0", x.state(5, 0, 1), 0);
        due("frame to 1", x.state(5, 0, 2), 1);
    }

    /** (b) "gap: skin less frame": below 0, too. */
    private static void gapBelowNone() {
        MastSparks x = with("set 1 0;set 3 0;set 4 99;", "set 1 0;set 2 999;set 3 99;set 4 0;",
                "leak 3 1 from 0;spark 3 if gap<0-197;set 1 0;set 3 0;set 4 99;");
        due("below 0", x.state(0, 0, 3), -99);
        due("on", x.state(0, 1, 3), -198);
        due("to the frame's charge", x.state(0, 2, 3), -200);
        due("above 0", x.state(1, 0, 3), 99);
        due("on", x.state(1, 9, 3), 990);
        due("to the skin's charge", x.state(1, 10, 3), 999);
        due("at the end", x.state(1, 99, 3), 999);
        due("as a condition has it", x.run(2, 0), 1);
    }

    /** (c) "from their S on". */
    private static void leaksFrom() {
        MastSparks x = with("leak 2 7 from 5;", "leak 2 7 from 0;", "leak 2 7 from 99;");
        due("ahead of S", x.cell(0, 4, 2, 1), 0);
        due("in S", x.cell(0, 5, 2, 1), 7);
        due("behind S", x.cell(0, 6, 2, 1), 14);
        due("from SECOND 0 on", x.cell(1, 0, 2, 1), 7);
        due("ahead of 99", x.cell(2, 98, 2, 1), 0);
        due("in 99", x.cell(2, 99, 2, 1), 7);
        due("all gas behind S", x.state(0, 6, 5), 786);
        due("all gas at last", x.state(0, 99, 5), 700);
        due("the others have nothing", x.cell(1, 99, 1, 1) + x.cell(1, 99, 3, 1), 0);
    }

    /** (c) "so much of the CELL's gas (or all that there is)", "in order". */
    private static void leaksAllThatThereIs() {
        MastSparks x = with("leak 0 99 from 0;leak 1 99 from 0;leak 2 99 from 0;leak 3 99 from 0;"
                + "leak 4 60 from 0;leak 4 60 from 0;");
        x.fill(0, 98);
        x.fill(1, 99);
        x.fill(2, 100);
        x.fill(3, 0);
        int[] gas = {0, 0, 1, 0, 0};
        int[] mixed = {98, 99, 99, 0, 100};
        for (int i = 0; i < 5; i++) {
            due("gas of " + i, x.cell(0, 0, i, 0), gas[i]);
            due("mixed of " + i, x.cell(0, 0, i, 1), mixed[i]);
        }
        due("the one that was left", x.cell(0, 1, 2, 1), 100);
        due("no more than there was", x.cell(0, 99, 2, 1), 100);
        due("nor less than none", x.cell(0, 99, 2, 0), 0);
        MastSparks great = with("leak 7 99 from 0;");
        great.fill(7, 999);
        due("990 of 999", great.cell(0, 9, 7, 1), 990);
        due("9 are left", great.cell(0, 9, 7, 0), 9);
        due("all", great.cell(0, 10, 7, 1), 999);
    }

    /** Terms and promise 7, "GAS (0 to 999; 100 at first)". */
    private static void gasOfACell() {
        MastSparks x = with("");
        for (int i = 0; i < 8; i++) {
            int cell = i;
            due("at first", x.fill(i, 0), 100);
            due("0", x.cell(0, 0, i, 0), 0);
            due("what it was", x.fill(i, 999), 0);
            due("999", x.cell(0, 0, i, 0), 999);
            throwsDue("1,000", WRONG, () -> x.fill(cell, 1000));
            throwsDue("-1", WRONG, () -> x.fill(cell, -1));
            due("it stays", x.fill(i, 999), 999);
        }
        due("all gas at its most", x.state(0, 99, 5), 7992);
        throwsDue("CELL 8", NO_INDEX, () -> x.fill(8, 5));
        throwsDue("CELL -1", NO_INDEX, () -> x.fill(-1, 5));
        throwsDue("CELL 8 goes ahead of 1,000", NO_INDEX, () -> x.fill(8, 1000));
        due("all stay", x.state(0, 99, 5), 7992);
    }

    /** (d) "and something is mixed in the CELL". */
    private static void somethingMixed() {
        MastSparks x = with("spark 3 if 1=1;", "leak 3 0 from 0;spark 3 if 1=1;", AT_ONCE_3,
                "leak 2 99 from 0;leak 4 99 from 0;spark 3 if 1=1;");
        due("nothing leaks", x.run(0, 0), NONE);
        due("0 leaks", x.run(1, 0), NONE);
        due("1 leaks", x.run(2, 0), 0);
        due("it leaks beside it", x.run(3, 0), NONE);
        x.fill(3, 0);
        due("no gas that could leak", x.run(2, 0), NONE);
        x.fill(3, 1);
        due("one part of gas", x.run(2, 0), 0);
        due("wherever the leak stands", with("spark 3 if 1=1;leak 3 1 from 0;").run(0, 0), 0);
    }

    /** (d) "if C holds (by what is so now)": behind wet, gap and leaks of the SECOND, ahead of its sinking. */
    private static void sparksByNow() {
        MastSparks x = with("leak 3 7 from 5;spark 3 if mixed=7;", "leak 3 7 from 5;spark 3 if gas=93;",
                "leak 3 7 from 0;spark 3 if wet=20;", "leak 3 7 from 0;spark 3 if gap=12;",
                "leak 3 7 from 0;spark 3 if height=90;set 7 9999;", "leak 3 7 from 0;spark 3 if height=84;set 7 9999;");
        due("mixed", x.run(0, 0), 5);
        due("gas", x.run(1, 0), 5);
        due("wet", x.run(2, 0), 9);
        due("gap", x.run(3, 0), 9);
        due("height at first", x.run(4, 0), 0);
        due("height that has sunk once", x.run(5, 0), 1);
    }

    /** (d) and (e): a CELL that has fire keeps the SECOND in which it began. */
    private static void fireBeginsOnce() {
        MastSparks x = with("leak 3 1 from 0;spark 3 if second>3;spark 3 if second>4;",
                "leak 3 1 from 0;leak 4 1 from 0;spark 3 if second=4;spark 4 if second=6;",
                "leak 3 1 from 0;leak 4 1 from 0;spark 3 if second=4;spark 4 if second=7;");
        due("by its first spark", x.cell(0, 99, 3, 2), 4);
        due("by a spark and from beside at once", x.cell(1, 99, 4, 2), 6);
        due("by a spark behind that", x.cell(2, 99, 4, 2), 6);
    }

    /** (e) "for SPREAD SECONDS or more (since the one in which it began)", SPREAD 1 to 20. */
    private static void spreadOrMore() {
        MastSparks x = with(AT_ONCE_3 + "set 5 1;", AT_ONCE_3 + "set 5 2;", AT_ONCE_3 + "set 5 20;");
        int[] spread = {1, 2, 20};
        for (int i = 0; i < 3; i++) {
            due("a SECOND less of " + spread[i], x.cell(i, spread[i] - 1, 4, 2), NONE);
            due("as many of " + spread[i], x.cell(i, spread[i], 4, 2), spread[i]);
            due("on the other side", x.cell(i, spread[i], 2, 2), spread[i]);
            due("the next but one, a SECOND less", x.cell(i, 2 * spread[i] - 1, 5, 2), NONE);
            due("the next but one", x.cell(i, 2 * spread[i], 5, 2), 2 * spread[i]);
        }
        MastSparks empty = with(AT_ONCE_3);
        empty.fill(2, 0);
        due("also where no gas is", empty.cell(0, 2, 2, 2), 2);
        due("and on from there", empty.cell(0, 4, 1, 2), 4);
    }

    /** (e) CELLS 0 and 7 have one beside them each: bow and tail are not beside one another. */
    private static void spreadEnds() {
        MastSparks x = with("leak 0 1 from 0;spark 0 if 1=1;set 5 1;", "leak 7 1 from 0;spark 7 if 1=1;set 5 1;",
                "leak 0 1 from 0;spark 0 if 1=1;set 5 20;");
        for (int i = 0; i < 8; i++) {
            due("from the bow to " + i, x.cell(0, 99, i, 2), i);
            due("from the tail to " + i, x.cell(1, 99, i, 2), 7 - i);
            due("slow to " + i, x.cell(2, 99, i, 2), i < 5 ? 20 * i : NONE);
        }
    }

    /** (e) A CELL that has it of this very SECOND does not hand it on in it; between two fires the earlier counts. */
    private static void spreadOfThisSecond() {
        MastSparks x = with(AT_ONCE_3 + "set 5 1;",
                "leak 2 1 from 0;leak 5 1 from 0;spark 2 if second=3;spark 5 if second=4;");
        due("fires of SECOND 0", x.state(0, 0, 7), 1);
        due("fires of SECOND 1", x.state(0, 1, 7), 3);
        due("fires of SECOND 2", x.state(0, 2, 7), 5);
        due("beside the earlier", x.cell(1, 99, 3, 2), 5);
        due("beside the later", x.cell(1, 99, 4, 2), 6);
    }

    /** (f) "Of each CELL with fire BURN gas less (0 at least)": from the SECOND in which it begins. */
    private static void burnsToNone() {
        MastSparks x = with(AT_ONCE_3 + "set 6 99;", AT_ONCE_3 + "set 6 98;", AT_ONCE_3 + "set 6 0;");
        due("99 of 99", x.cell(0, 0, 3, 0), 0);
        due("98 of 99", x.cell(1, 0, 3, 0), 1);
        due("0 at least, with the leak", x.cell(1, 1, 3, 0), 0);
        due("nothing burns", x.cell(2, 0, 3, 0), 99);
        due("beside, ahead of its fire", x.cell(0, 1, 4, 0), 100);
        due("beside, in the SECOND of its fire", x.cell(0, 2, 4, 0), 1);
        due("beside, 0 at least", x.cell(0, 3, 4, 0), 0);
        due("all gas at the end", x.state(0, 99, 5), 0);
        x.fill(3, 50);
        due("less gas than BURN", x.cell(0, 0, 3, 0), 0);
    }

    /** (f) "and nothing is mixed there any more": also if nothing burns, and though it leaks on. */
    private static void nothingMixedInFire() {
        MastSparks x = with("leak 3 10 from 0;leak 4 1 from 0;spark 3 if second=2;set 6 0;");
        due("ahead of the fire", x.cell(0, 1, 3, 1), 20);
        due("in its SECOND", x.cell(0, 2, 3, 1), 0);
        due("it leaks on", x.cell(0, 5, 3, 0), 40);
        due("and is gone", x.cell(0, 5, 3, 1), 0);
        due("beside, ahead of its fire", x.cell(0, 3, 4, 1), 4);
        due("beside", x.cell(0, 4, 4, 1), 0);
    }

    /** (g) "If all gas is below LIFT". */
    private static void belowLift() {
        MastSparks x = with("set 7 800;", "set 7 801;", "set 7 0;", "set 7 9999;", "leak 3 1 from 4;set 7 800;",
                "set 7 799;");
        due("LIFT itself", x.state(0, 99, 4), 90);
        due("one more", x.state(1, 0, 4), 84);
        due("one less", x.state(5, 99, 4), 90);
        due("gas that is mixed is none", x.state(4, 4, 4), 84);
        due("ahead of that", x.state(4, 3, 4), 90);
        for (int i = 0; i < 8; i++) {
            x.fill(i, 0);
        }
        due("no gas, LIFT 0", x.state(2, 99, 4), 90);
        due("no gas, LIFT 9,999", x.state(3, 0, 4), 84);
        for (int i = 0; i < 8; i++) {
            x.fill(i, 999);
        }
        due("all gas, LIFT 9,999", x.state(3, 0, 4), 84);
    }

    /** (g) "HEIGHT is SINK less (0 at least); if it is 0 then, it is DOWN". */
    private static void sinksToNone() {
        MastSparks x = with("set 7 9999;set 9 12;", "set 7 9999;set 9 13;", "set 7 9999;set 9 11;", "set 7 9999;set 9 0;",
                "set 7 9999;set 8 0;set 9 1;", "set 7 9999;set 8 0;set 9 0;");
        due("to 0", x.state(0, 1, 4), 0);
        due("DOWN", x.run(0, 2), 1);
        due("1 is left", x.state(1, 1, 4), 1);
        due("not DOWN", x.run(1, 2), 2);
        due("0 at least", x.state(1, 2, 4), 0);
        due("not below it", x.state(2, 1, 4), 0);
        due("DOWN", x.run(2, 2), 1);
        due("0 at first", x.run(3, 2), 0);
        due("1 and no SINK", x.run(4, 2), NONE);
        due("0 and no SINK", x.run(5, 2), 0);
        MastSparks held = with("set 9 0;", "set 9 0;set 7 800;", "set 9 0;leak 3 1 from 50;set 7 800;");
        due("HEIGHT 0, but held", held.run(0, 2), NONE);
        due("held by LIFT itself", held.run(1, 2), NONE);
        due("till it is not held", held.run(2, 2), 50);
    }

    /** (g) "(the first time counts). All goes on behind that to SECOND 99". */
    private static void downFirstTime() {
        MastSparks x = with("leak 3 1 from 0;spark 3 if second=90;set 7 9999;set 9 1;");
        due("DOWN", x.run(0, 2), 0);
        due("wet goes on", x.state(0, 99, 0), 200);
        due("charge goes on", x.state(0, 99, 2), 0);
        due("leaks go on", x.cell(0, 89, 3, 1), 90);
        due("fire begins", x.run(0, 0), 90);
        due("and goes on", x.state(0, 99, 7), 8);
        due("HEIGHT stays", x.state(0, 99, 4), 0);
    }

    /** "BEGAN: the first SECOND with fire, and the CELL in which it was (of several the least)". */
    private static void began() {
        MastSparks x = with("leak 7 1 from 0;leak 0 1 from 0;spark 7 if second=9;spark 0 if second=9;",
                "leak 7 1 from 0;leak 0 1 from 0;spark 7 if second=9;spark 0 if second=10;",
                "leak 7 1 from 0;leak 0 1 from 0;spark 0 if second=10;spark 7 if second=9;",
                "leak 7 1 from 0;leak 0 1 from 0;spark 0 if second=9;spark 7 if second=9;", "");
        due("of two the least", x.run(0, 1), 0);
        due("the earlier", x.run(1, 1), 7);
        due("in whatever order they stand", x.run(2, 1), 7);
        due("of two the least", x.run(3, 1), 0);
        due("its SECOND", x.run(1, 0), 9);
        due("no fire", x.run(4, 0), NONE);
        due("no CELL", x.run(4, 1), NONE);
    }

    /** "LASTED .. (none without one of these, or if it is DOWN ahead of BEGAN)". */
    private static void lasted() {
        String leaks = "leak 3 1 from 0;";
        String sinks = "set 7 9999;set 8 1;";
        String late = leaks + "spark 3 if second=9;";
        MastSparks x = with(leaks + "spark 3 if second=0;" + sinks + "set 9 100;", late + sinks + "set 9 10;",
                late + sinks + "set 9 9;", late + sinks + "set 9 11;", late + "set 7 0;", sinks);
        due("from SECOND 0 to 99", x.run(0, 3), 99);
        due("in one SECOND", x.run(1, 3), 0);
        due("DOWN a SECOND ahead", x.run(2, 3), NONE);
        due("though both are told", x.run(2, 0) * 100 + x.run(2, 2), 908);
        due("a SECOND behind", x.run(3, 3), 1);
        due("never DOWN", x.run(4, 3), NONE);
        due("though it BEGAN", x.run(4, 0), 9);
        due("no fire", x.run(5, 3), NONE);
        due("though it is DOWN", x.run(5, 2), 89);
        due("neither", with("").run(0, 3), NONE);
    }

    /** "HEAVY at a SECOND: gas of CELLS 0 to 3 less gas of 4 to 7". */
    private static void heavy() {
        for (int i = 0; i < 8; i++) {
            MastSparks x = with("");
            x.fill(i, 0);
            due("without CELL " + i, x.state(0, 0, 6), i < 4 ? -100 : 100);
        }
        MastSparks x = with("");
        for (int i = 0; i < 8; i++) {
            x.fill(i, i < 4 ? 999 : 0);
        }
        due("the most", x.state(0, 0, 6), 3996);
        for (int i = 0; i < 8; i++) {
            x.fill(i, i < 4 ? 0 : 999);
        }
        due("the least", x.state(0, 0, 6), -3996);
    }

    /** Promise 8, "7 how many CELLS have fire": 0 to 8; promise 9, "(NONE: none)". */
    private static void fires() {
        MastSparks x = with("leak 0 1 from 0;spark 0 if second=3;set 5 1;");
        due("none yet", x.state(0, 2, 7), 0);
        due("no SECOND yet", x.cell(0, 2, 0, 2), NONE);
        due("one", x.state(0, 3, 7), 1);
        due("in its SECOND", x.cell(0, 3, 0, 2), 3);
        due("seven", x.state(0, 9, 7), 7);
        due("the last is without", x.cell(0, 9, 7, 2), NONE);
        due("all", x.state(0, 10, 7), 8);
        due("the last has it", x.cell(0, 10, 7, 2), 10);
        due("all to the end", x.state(0, 99, 7), 8);
    }

    /** Promises 8 and 9, "no such SECOND", "no such CELL", "no such WHY". */
    private static void secondsAsked() {
        MastSparks x = with("");
        due("SECOND 0", x.state(0, 0, 0), 2);
        due("SECOND 99", x.state(0, 99, 0), 200);
        due("SECOND 0 of a CELL", x.cell(0, 0, 0, 0), 100);
        due("SECOND 99 of a CELL", x.cell(0, 99, 7, 0), 100);
        for (int no : new int[] {-1, 100, Integer.MIN_VALUE, Integer.MAX_VALUE}) {
            throwsDue("state at " + no, WRONG, () -> x.state(0, no, 0));
            throwsDue("cell at " + no, WRONG, () -> x.cell(0, no, 0, 0));
        }
        for (int no : new int[] {-1, 8, Integer.MIN_VALUE, Integer.MAX_VALUE}) {
            throwsDue("CELL " + no, NO_INDEX, () -> x.cell(0, 0, no, 0));
        }
        for (int no : new int[] {-1, 1, 6, Integer.MIN_VALUE, Integer.MAX_VALUE}) {
            throwsDue("state of WHY " + no, NO_WHY, () -> x.state(no, 0, 0));
            throwsDue("cell of WHY " + no, NO_WHY, () -> x.cell(no, 0, 0, 0));
            throwsDue("run of WHY " + no, NO_WHY, () -> x.run(no, 0));
            throwsDue("order of WHY " + no, NO_WHY, () -> x.order(no, 0));
            throwsDue("dry of WHY " + no, NO_WHY, () -> x.dry(no));
            throwsDue("parted of WHY " + no, NO_WHY, () -> x.parted(no, 0));
            throwsDue("parted of another WHY " + no, NO_WHY, () -> x.parted(0, no));
        }
        throwsDue("no WHY goes first", NO_WHY, () -> x.cell(1, 100, 8, 3));
        throwsDue("no CELL goes next", NO_INDEX, () -> x.cell(0, 100, 8, 3));
    }

    /** Promises 8 to 10, "or another what". */
    private static void whatAsked() {
        MastSparks x = with("");
        int[] state = {2, 200, 200, 0, 90, 800, 0, 0};
        for (int i = 0; i < 8; i++) {
            due("state " + i, x.state(0, 0, i), state[i]);
        }
        int[] cell = {100, 0, NONE};
        for (int i = 0; i < 3; i++) {
            due("cell " + i, x.cell(0, 0, 0, i), cell[i]);
        }
        for (int i = 0; i < 4; i++) {
            due("run " + i, x.run(0, i), NONE);
        }
        for (int no : new int[] {-1, 8, Integer.MIN_VALUE, Integer.MAX_VALUE}) {
            throwsDue("state " + no, WRONG, () -> x.state(0, 0, no));
        }
        for (int no : new int[] {-1, 3, Integer.MIN_VALUE, Integer.MAX_VALUE}) {
            throwsDue("cell " + no, WRONG, () -> x.cell(0, 0, 0, no));
        }
        for (int no : new int[] {-1, 4, Integer.MIN_VALUE, Integer.MAX_VALUE}) {
            throwsDue("run " + no, WRONG, () -> x.run(0, no));
        }
    }

    /** Promise 26, "the first SECOND at which they are not" ALIKE, by each of what they may differ in. */
    private static void parted() {
        String leaks = "leak 3 9 from 0;";
        MastSparks gas = with("leak 7 1 from 0;", "leak 7 1 from 1;", "leak 0 1 from 1;", "");
        due("CELL 7", gas.parted(0, 1), 0);
        due("CELL 0", gas.parted(2, 3), 1);
        due("CELL 0 and CELL 7", gas.parted(1, 2), 1);
        MastSparks fire = with(leaks + "spark 3 if second=5;set 6 0;", leaks + "spark 3 if second=5;set 5 3;set 6 0;",
                leaks + "spark 3 if second=5;set 6 1;");
        due("fire alone", fire.parted(0, 1), 7);
        due("gas alone", fire.parted(0, 2), 5);
        MastSparks height = with("leak 3 1 from 4;set 7 800;", "leak 3 1 from 4;", "set 9 89;", "");
        due("HEIGHT alone", height.parted(0, 1), 4);
        due("HEIGHT at first", height.parted(2, 3), 0);
    }

    /** Promise 26, "NONE: never", SECONDS 0 and 99; wet, skin, frame and when fire began are no matter. */
    private static void partedEdges() {
        MastSparks x = with("", "leak 3 1 from 99;", "leak 3 1 from 99;set 7 800;", "leak 3 1 from 0;",
                "set 0 9;set 2 7;set 3 9;set 4 9;");
        due("of itself", x.parted(1, 1), NONE);
        due("in SECOND 99", x.parted(0, 1), 99);
        due("the other way", x.parted(1, 0), 99);
        due("HEIGHT in SECOND 99", x.parted(1, 2), 99);
        due("in SECOND 0", x.parted(0, 3), 0);
        due("wet and charge alone", x.parted(0, 4), NONE);
        // CELL 3 has no gas left, so that BURN is no matter there.
        String slow = "leak 3 99 from 0;spark 3 if second=2;set 5 20;";
        MastSparks y = with(slow + "set 6 0;", slow);
        y.fill(3, 99);
        due("till fire comes where gas is", y.parted(0, 1), 22);
    }

    /** Promise 27, "The k-th CELL (from 0 on) .., of the same by CELL; NONE". */
    private static void order() {
        MastSparks x = with("leak 4 1 from 0;spark 4 if 1=1;", "",
                "leak 7 1 from 0;leak 0 1 from 0;spark 7 if 1=1;spark 0 if 1=1;set 5 20;",
                "leak 4 1 from 0;spark 4 if second=99;");
        int[] due = {4, 3, 5, 2, 6, 1, 7, 0};
        for (int k = 0; k < 8; k++) {
            due("order " + k, x.order(0, k), due[k]);
        }
        int[] ends = {0, 7, 1, 6, 2, 5, 3, 4};
        for (int k = 0; k < 8; k++) {
            due("from both ends " + k, x.order(2, k), ends[k]);
        }
        for (int k : new int[] {8, -1, Integer.MIN_VALUE, Integer.MAX_VALUE}) {
            due("order " + k, x.order(0, k), NONE);
        }
        due("no fire", x.order(1, 0), NONE);
        due("fire in SECOND 99", x.order(3, 0), 4);
        due("none behind it", x.order(3, 1), NONE);
    }

    /** Promise 28, "The least LEADS (0 to 999) for which a WHY has no fire at all .. ; NONE". */
    private static void dryEdges() {
        String spark = "leak 3 1 from 0;spark 3 if ";
        MastSparks x = with("", AT_ONCE_3, spark + "gap>0;", spark + "gap>0 and second<83;",
                spark + "gap=0 and second=0;", spark + "gap=0 and second=50;");
        due("never any fire", x.dry(0), 0);
        due("fire whatever LEADS is", x.dry(1), NONE);
        due("wet is 200 in SECOND 99", x.dry(2), 201);
        due("none for LEADS 0 already", x.dry(4), 0);
        due("none while they lead early enough", x.dry(5), 0);
        x.set(0, 0);
        due("no RAIN: LEADS 0 leads all the same", x.dry(2), 1);
        x.set(0, 1);
        due("RAIN 1: wet is 100 in SECOND 99", x.dry(2), 101);
        x.set(0, 12);
        due("996 is wet in time", x.dry(3), 997);
        x.set(0, 9);
        due("900 is the most that it is wet", x.dry(2), 901);
        x.set(0, 10);
        due("1,000 is more than LEADS can be", x.dry(2), NONE);
        x.set(0, 99);
        due("RAIN 99", x.dry(2), NONE);
        due("RAIN 99, early", x.dry(4), 0);
        due("the LANDING stays", x.count(11), 20);
    }

    /** Promise 28, "(unless it sets it)". */
    private static void dryBySets() {
        String gap = "leak 3 1 from 0;spark 3 if gap>0;";
        MastSparks x = with(gap + "set 1 200;", gap + "set 1 201;", gap + "set 0 9;", gap);
        due("it sets it, and burns", x.dry(0), NONE);
        due("it sets it, and does not", x.dry(1), 0);
        due("it sets RAIN", x.dry(2), 901);
        x.set(1, 999);
        due("what is told of it now is no matter", x.dry(3), 201);
    }
}
