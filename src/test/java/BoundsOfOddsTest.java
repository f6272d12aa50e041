/** The boundary cases of ROWS and ODDS: the document's part 3, and promises 5 and 11 to 20. */
public final class BoundsOfOddsTest extends Checks {
    /** Fire in CELL 3 from SECOND 0 on. */
    private static final String BURNS = "leak 3 1 from 0;spark 3 if 1=1;";
    private static final int[] LEAST_V = {0, 0, 0, -9999, 0, -9999};
    private static final int[] MOST_V = {1, 7, 99, 9999, 99, 9999};

    public static void main(String[] args) {
        weights();
        weightsCount();
        tenRows();
        rowKinds();
        rowValues();
        rowSecondsAndCells();
        rowWrongs();
        fireRows();
        beganRows();
        downRows();
        lastedRows();
        noneIsNotNearNone();
        heavyRows();
        gapRows();
        oneWithoutTheOther();
        wrongOfSixteen();
        cutOfAThousand();
        allAreNone();
        firstOfTheBest();
        moved();
        movedToAndFromNone();
        inquiryBits();
        inquiryOfNone();
        inquiryWithoutLandings();
        years();
        eightAtMost();
        thanItWasTold();
        tenBefore();
        rainAndCharge();
        burntUnlessSet();
        partedByTwo();
        noSuchWhyOrRow();
        end("BoundsOfOddsTest");
    }

    /** Promise 5, "WEIGHT of a WHY: 1 to 99 (10 at first)". */
    private static void weights() {
        MastSparks x = with("", "", "", "", "", "");
        for (int i = 0; i < 6; i++) {
            int why = i;
            due("at first", x.weigh(i, 1), 10);
            due("1", x.weigh(i, 99), 1);
            for (int no : new int[] {0, 100, -1, Integer.MIN_VALUE, Integer.MAX_VALUE}) {
                throwsDue("weigh " + no, WRONG, () -> x.weigh(why, no));
            }
            due("99 stays", x.weigh(i, 20 + i), 99);
        }
        for (int i = 0; i < 6; i++) {
            due("each has its own", x.weigh(i, 1), 20 + i);
        }
        throwsDue("no WHY 6", NO_WHY, () -> x.weigh(6, 1));
        throwsDue("no WHY -1", NO_WHY, () -> x.weigh(-1, 1));
        throwsDue("no WHY goes first", NO_WHY, () -> x.weigh(6, 0));
    }

    /** ODDS by the least and the greatest WEIGHT. */
    private static void weightsCount() {
        MastSparks x = with("", "");
        x.weigh(0, 1);
        x.weigh(1, 99);
        due("1", x.odds(0), 1);
        due("99", x.odds(1), 99);
        due("10 of 1,000", x.share(0), 10);
        due("990 of 1,000", x.share(1), 990);
    }

    /** Promise 11, "ROWS, numbered from 0 on, 10 at most", "-1: there are 10". */
    private static void tenRows() {
        MastSparks x = with("");
        for (int i = 0; i < 10; i++) {
            throwsDue("one that is none has no number", WRONG, () -> x.row(0, 0, 0, 2, 0));
            due("row " + i, x.row(0, 0, 0, i % 2, 7), i);
            due("count " + i, x.count(1), i + 1);
        }
        due("an 11th", x.row(0, 0, 0, 0, 0), -1);
        due("ten", x.count(1), 10);
        for (int i = 0; i < 10; i++) {
            due("ROW " + i + " stays", x.says(0, i), i % 2 == 0);
        }
        throwsDue("there is no ROW 10", NO_INDEX, () -> x.says(0, 10));
        throwsDue("an 11th that is none", WRONG, () -> x.row(0, 0, 0, 2, 0));
    }

    /** Promise 11, "IllegalArgumentException: kind". */
    private static void rowKinds() {
        MastSparks x = with("");
        for (int no : new int[] {-1, 6, Integer.MIN_VALUE, Integer.MAX_VALUE}) {
            throwsDue("kind " + no, WRONG, () -> x.row(no, 0, 0, 0, 0));
        }
        for (int kind = 0; kind < 6; kind++) {
            due("kind " + kind, x.row(kind, 0, 0, 0, 0), kind);
        }
    }

    /** Promise 11, "v (0: 0 or 1; 1: 0 to 7; 2, 4: 0 to 99; 3, 5: -9,999 to 9,999)". */
    private static void rowValues() {
        for (int i = 0; i < 6; i++) {
            int kind = i;
            MastSparks x = with("");
            due("least v of " + i, x.row(i, 0, 0, LEAST_V[i], 0), 0);
            due("most v of " + i, x.row(i, 0, 0, MOST_V[i], 0), 1);
            for (int no : new int[] {LEAST_V[i] - 1, MOST_V[i] + 1, Integer.MIN_VALUE, Integer.MAX_VALUE}) {
                throwsDue("v " + no + " of " + i, WRONG, () -> x.row(kind, 0, 0, no, 0));
            }
            due("two of " + i, x.count(1), 2);
        }
    }

    /** Promise 11, "of others what is not asked is no matter, but there: SECOND 0 to 99, CELL 0 to 7". */
    private static void rowSecondsAndCells() {
        for (int i = 0; i < 6; i++) {
            int kind = i;
            MastSparks x = with("");
            due("SECOND 0, CELL 0 of " + i, x.row(i, 0, 0, 0, 0), 0);
            due("SECOND 99, CELL 7 of " + i, x.row(i, 99, 7, 0, 0), 1);
            for (int no : new int[] {-1, 100, Integer.MIN_VALUE, Integer.MAX_VALUE}) {
                throwsDue("SECOND " + no + " of " + i, WRONG, () -> x.row(kind, no, 0, 0, 0));
            }
            for (int no : new int[] {-1, 8, Integer.MIN_VALUE, Integer.MAX_VALUE}) {
                throwsDue("CELL " + no + " of " + i, WRONG, () -> x.row(kind, 0, no, 0, 0));
            }
            due("two of " + i, x.count(1), 2);
        }
        MastSparks x = with(BURNS + "set 7 9999;");
        int[] v = {0, 3, 14, 0, 14, 0};
        for (int kind : new int[] {1, 2, 4}) {
            due("whatever SECOND and CELL are", x.says(0, x.row(kind, 0, 0, v[kind], 1)), true);
            due("whatever SECOND and CELL are", x.says(0, x.row(kind, 99, 7, v[kind], 1)), true);
        }
        for (int kind : new int[] {3, 5}) {
            due("whatever the CELL is", x.says(0, x.row(kind, 1, 0, v[kind], 1)), kind == 5);
            due("whatever the CELL is", x.says(0, x.row(kind, 1, 7, v[kind], 1)), kind == 5);
        }
    }

    /** Promise 11, "Each is WRONG by w of 16 (0 to 8)". */
    private static void rowWrongs() {
        for (int i = 0; i < 6; i++) {
            int kind = i;
            MastSparks x = with("");
            due("w 0 of " + i, x.asked(x.row(i, 0, 0, 0, 0), 0), 0);
            due("w 8 of " + i, x.asked(x.row(i, 0, 0, 0, 8), 0), 8);
            for (int no : new int[] {-1, 9, 16, Integer.MIN_VALUE, Integer.MAX_VALUE}) {
                throwsDue("w " + no + " of " + i, WRONG, () -> x.row(kind, 0, 0, 0, no));
            }
            due("two of " + i, x.count(1), 2);
        }
    }

    private static void saysDue(MastSparks x, int[] row, boolean want) {
        x.image();
        int number = x.row(row[0], row[1], row[2], row[3], 1);
        due("kind " + row[0] + " at " + row[1] + " in " + row[2] + " of " + row[3], x.says(0, number), want);
        x.restore();
    }

    /** "kind 0: fire in a CELL at a SECOND (v 1) or none (0)". */
    private static void fireRows() {
        MastSparks x = with("leak 0 1 from 0;leak 7 1 from 0;spark 0 if second=9;spark 7 if second=99;set 5 20;");
        saysDue(x, new int[] {0, 8, 0, 1}, false);
        saysDue(x, new int[] {0, 8, 0, 0}, true);
        saysDue(x, new int[] {0, 9, 0, 1}, true);
        saysDue(x, new int[] {0, 9, 0, 0}, false);
        saysDue(x, new int[] {0, 98, 7, 1}, false);
        saysDue(x, new int[] {0, 99, 7, 1}, true);
        saysDue(x, new int[] {0, 99, 7, 0}, false);
        saysDue(x, new int[] {0, 99, 6, 0}, true);
        saysDue(x, new int[] {0, 0, 7, 0}, true);
    }

    /** "1: the CELL in which it BEGAN was v". */
    private static void beganRows() {
        MastSparks bow = with("leak 0 1 from 0;spark 0 if 1=1;");
        MastSparks tail = with("leak 7 1 from 0;spark 7 if 1=1;");
        for (int v = 0; v < 8; v++) {
            saysDue(bow, new int[] {1, 0, 0, v}, v == 0);
            saysDue(tail, new int[] {1, 0, 0, v}, v == 7);
        }
    }

    /** "2: it was DOWN at SECOND v, one more or less". */
    private static void downRows() {
        int[][] downs = {{0, 1}, {1, 2}, {50, 51}, {98, 99}, {99, 100}};
        for (int[] down : downs) {
            MastSparks x = with("set 7 9999;set 8 1;set 9 " + down[1] + ";");
            due("DOWN", x.run(0, 2), down[0]);
            for (int v = Math.max(0, down[0] - 3); v <= Math.min(99, down[0] + 3); v++) {
                saysDue(x, new int[] {2, 0, 0, v}, Math.abs(v - down[0]) <= 1);
            }
        }
    }

    /** "4: it LASTED v, one more or less". */
    private static void lastedRows() {
        int[][] lasts = {{0, 1}, {1, 2}, {50, 51}, {98, 99}, {99, 100}};
        for (int[] last : lasts) {
            MastSparks x = with(BURNS + "set 7 9999;set 8 1;set 9 " + last[1] + ";");
            due("LASTED", x.run(0, 3), last[0]);
            for (int v = Math.max(0, last[0] - 3); v <= Math.min(99, last[0] + 3); v++) {
                saysDue(x, new int[] {4, 0, 0, v}, Math.abs(v - last[0]) <= 1);
            }
        }
    }

    /** "(if there is no fire, or it is never DOWN, 1, 2, 4 are not so)": of no v, and NONE is not one less than 0. */
    private static void noneIsNotNearNone() {
        MastSparks x = with("");
        for (int kind : new int[] {1, 2, 4}) {
            for (int v : new int[] {0, 1, MOST_V[kind]}) {
                saysDue(x, new int[] {kind, 0, 0, v}, false);
            }
        }
        MastSparks late = with("leak 3 1 from 0;spark 3 if second=9;set 7 9999;set 9 1;");
        due("DOWN ahead of BEGAN", late.run(0, 3), NONE);
        saysDue(late, new int[] {4, 0, 0, 0}, false);
        saysDue(late, new int[] {4, 0, 0, 9}, false);
        saysDue(late, new int[] {4, 0, 0, 8}, false);
    }

    /** "3: at a SECOND it was HEAVY by v or more". */
    private static void heavyRows() {
        MastSparks x = with("leak 7 10 from 0;leak 0 5 from 99;");
        saysDue(x, new int[] {3, 0, 0, 9}, true);
        saysDue(x, new int[] {3, 0, 0, 10}, true);
        saysDue(x, new int[] {3, 0, 0, 11}, false);
        saysDue(x, new int[] {3, 99, 0, 95}, true);
        saysDue(x, new int[] {3, 99, 0, 96}, false);
        saysDue(x, new int[] {3, 98, 0, 100}, true);
        saysDue(x, new int[] {3, 0, 0, -9999}, true);
        saysDue(x, new int[] {3, 0, 0, 9999}, false);
        MastSparks light = with("leak 0 10 from 0;");
        saysDue(light, new int[] {3, 0, 0, -11}, true);
        saysDue(light, new int[] {3, 0, 0, -10}, true);
        saysDue(light, new int[] {3, 0, 0, -9}, false);
    }

    /** "5: gap at a SECOND was v or more". */
    private static void gapRows() {
        MastSparks x = with("");
        saysDue(x, new int[] {5, 8, 0, 0}, true);
        saysDue(x, new int[] {5, 8, 0, 1}, false);
        saysDue(x, new int[] {5, 9, 0, 11}, true);
        saysDue(x, new int[] {5, 9, 0, 12}, true);
        saysDue(x, new int[] {5, 9, 0, 13}, false);
        saysDue(x, new int[] {5, 0, 0, -9999}, true);
        saysDue(x, new int[] {5, 99, 0, 9999}, false);
        MastSparks below = with("set 1 0;set 3 0;set 4 99;");
        saysDue(below, new int[] {5, 0, 0, -100}, true);
        saysDue(below, new int[] {5, 0, 0, -99}, true);
        saysDue(below, new int[] {5, 0, 0, -98}, false);
    }

    /** What a RUN has so of fire without DOWN, and of DOWN without fire. */
    private static void oneWithoutTheOther() {
        MastSparks held = with(BURNS + "set 7 0;");
        due("never DOWN", held.run(0, 2), NONE);
        saysDue(held, new int[] {1, 0, 0, 3}, true);
        saysDue(held, new int[] {2, 0, 0, 0}, false);
        saysDue(held, new int[] {4, 0, 0, 0}, false);
        MastSparks sunk = with("set 7 9999;set 9 1;");
        due("no fire", sunk.run(0, 0), NONE);
        saysDue(sunk, new int[] {1, 0, 0, 0}, false);
        saysDue(sunk, new int[] {2, 0, 0, 0}, true);
        saysDue(sunk, new int[] {4, 0, 0, 0}, false);
    }

    /** "16 less w if its RUN has it so, else w", for each w. */
    private static void wrongOfSixteen() {
        for (int w = 0; w <= 8; w++) {
            MastSparks x = with(BURNS, "");
            x.row(0, 0, 3, 1, w);
            due("so, WRONG by " + w, x.odds(0), 10 * (16 - w));
            due("not so, WRONG by " + w, x.odds(1), 10 * w);
            x.row(0, 0, 3, 1, w);
            due("so twice", x.odds(0), 10 * (16 - w) * (16 - w));
            due("not so twice", x.odds(1), 10 * w * w);
        }
        MastSparks most = with(BURNS);
        most.weigh(0, 99);
        for (int i = 0; i < 10; i++) {
            most.row(0, 0, 3, 1, 0);
        }
        due("the greatest ODDS", most.odds(0), 108_851_651_149_824L);
        due("of 1,000", most.share(0), 1000);
    }

    /** "of 1,000: 1,000 times that, by the ODDS of all WHYS together (cut)". */
    private static void cutOfAThousand() {
        MastSparks x = with("", "", "", "", "", "");
        due("a sixth", x.share(5), 166);
        x.weigh(0, 99);
        due("99 of 149", x.share(0), 664);
        due("10 of 149", x.share(1), 67);
        x.weigh(1, 1);
        due("1 of 140", x.share(1), 7);
        MastSparks all = with(BURNS, BURNS, BURNS, BURNS, BURNS, BURNS);
        for (int i = 0; i < 6; i++) {
            all.weigh(i, 99);
        }
        for (int i = 0; i < 10; i++) {
            all.row(0, 0, 3, 1, 0);
        }
        due("six of the greatest ODDS", all.share(5), 166);
        MastSparks none = with(BURNS, "");
        none.row(0, 0, 3, 1, 0);
        due("all of it", none.share(0), 1000);
        due("none of it", none.share(1), 0);
    }

    /** Promise 15, "(0, if all are 0)"; BEST of these is the first. */
    private static void allAreNone() {
        MastSparks x = with("", "");
        x.row(0, 0, 3, 1, 0);
        for (int i = 0; i < 2; i++) {
            due("odds", x.odds(i), 0);
            due("share", x.share(i), 0);
            due("by an inquiry", x.inquiry(1, i), 0);
        }
        due("best", x.best(), 0);
        due("best by an inquiry", x.inquiry(1, NONE), 0);
        due("best by an inquiry without it", x.inquiry(0, NONE), 0);
        due("next", x.next(0), 0);
    }

    /** Promise 16, "BEST: the WHY of the greatest ODDS; of these the first", "NONE: there are no WHYS". */
    private static void firstOfTheBest() {
        MastSparks x = new MastSparks();
        due("of none", x.best(), NONE);
        due("with a FAULT there is still none", tell(x, "set"), -9);
        due("of none", x.best(), NONE);
        for (int i = 0; i < 6; i++) {
            x.why(0);
            due("the first of " + (i + 1), x.best(), 0);
        }
        x.weigh(5, 11);
        due("the last", x.best(), 5);
        x.weigh(3, 11);
        due("the first of two", x.best(), 3);
        x.weigh(3, 10);
        x.weigh(0, 9);
        x.weigh(5, 10);
        due("the first of five", x.best(), 1);
    }

    /** Promise 17, "ODDS of 1,000 with all ROWS less those without that ROW". */
    private static void moved() {
        MastSparks x = with(BURNS, "");
        x.row(0, 0, 3, 1, 8);
        x.row(0, 0, 3, 1, 0);
        x.row(0, 0, 3, 0, 4);
        due("by one that is WRONG by 8", x.moved(0, 0), 0);
        due("up", x.moved(0, 1), 1000 - 250);
        due("down", x.moved(1, 1), -750);
        due("where the other alone decides", x.moved(0, 2), 0);
        MastSparks all = with(BURNS, "");
        for (int i = 0; i < 10; i++) {
            all.row(0, 0, 3, 1, i == 9 ? 0 : 8);
        }
        due("by the last of ten", all.moved(0, 9), 500);
        due("by the first of ten", all.moved(0, 0), 0);
        MastSparks burnt = with(BURNS, "");
        burnt.row(0, 0, 3, 1, 4);
        burnt.before(0, 0);
        due("with LANDINGS before both times", burnt.moved(0, 0), 60 * 1000 / 100 - 5 * 1000 / 15);
        MastSparks alone = with("");
        alone.row(0, 0, 3, 0, 3);
        due("a WHY alone", alone.moved(0, 0), 0);
    }

    /** MOVED where all ODDS are 0, with the ROW or without it. */
    private static void movedToAndFromNone() {
        MastSparks x = with("", "");
        x.row(0, 0, 3, 1, 0);
        due("to 0", x.moved(0, 0), -500);
        x.row(0, 0, 3, 1, 0);
        due("0 both times", x.moved(0, 0), 0);
        MastSparks burnt = with(BURNS);
        burnt.weigh(0, 1);
        burnt.row(0, 0, 3, 1, 4);
        burnt.before(2, 200);
        due("from 0 by LANDINGS before", burnt.moved(0, 0), 1000);
    }

    /** Promise 18, "IllegalArgumentException: bits of no ROW". */
    private static void inquiryBits() {
        MastSparks x = with(BURNS, "");
        for (int rows = 0; rows <= 10; rows++) {
            int first = 1 << rows;
            due("all bits of " + rows, x.inquiry(first - 1, NONE), 0);
            for (int no : new int[] {first, first | 1, 1 << 10, 1 << 30, Integer.MAX_VALUE, Integer.MIN_VALUE, -1}) {
                throwsDue("bits " + no + " of " + rows, WRONG, () -> x.inquiry(no, NONE));
                throwsDue("bits " + no + " of " + rows, WRONG, () -> x.inquiry(no, 0));
            }
            x.row(0, 0, 3, 1, rows == 9 ? 0 : 8);
        }
        due("the last of ten alone", x.inquiry(512, 0), 1000);
        due("all but the last", x.inquiry(511, 0), 500);
        due("none", x.inquiry(0, 0), 500);
        due("all", x.inquiry(1023, 1), 0);
    }

    /** Promise 18, "with NONE as WHY: BEST by these"; another that is none is no such WHY. */
    private static void inquiryOfNone() {
        MastSparks empty = new MastSparks();
        due("no WHYS", empty.inquiry(0, NONE), NONE);
        throwsDue("no WHY 0", NO_WHY, () -> empty.inquiry(0, 0));
        throwsDue("bits of no ROW", WRONG, () -> empty.inquiry(1, NONE));
        MastSparks x = with("", BURNS);
        x.row(0, 0, 3, 1, 2);
        x.row(0, 0, 3, 0, 1);
        due("BEST by none", x.inquiry(0, NONE), 0);
        due("BEST by the first", x.inquiry(1, NONE), 1);
        due("BEST by both", x.inquiry(3, NONE), 0);
        for (int no : new int[] {-2, 2, 6, Integer.MIN_VALUE, Integer.MAX_VALUE}) {
            throwsDue("WHY " + no, NO_WHY, () -> x.inquiry(0, no));
            throwsDue("WHY " + no + " goes ahead of bits", NO_WHY, () -> x.inquiry(4, no));
        }
    }

    /** "by WEIGHTS and these ROWS alone (no LANDINGS before)". */
    private static void inquiryWithoutLandings() {
        MastSparks x = with(BURNS, "");
        x.weigh(0, 30);
        for (int i = 0; i < 10; i++) {
            x.before(0, 0);
        }
        due("with LANDINGS", x.share(0), 0);
        due("BEST with LANDINGS", x.best(), 1);
        due("without", x.inquiry(0, 0), 750);
        due("BEST without", x.inquiry(0, NONE), 0);
    }

    /** Promise 12, "(0 to 99; 0 at first)", "one more for each 10 of them". */
    private static void years() {
        MastSparks x = with(BURNS);
        x.row(0, 0, 3, 1, 0);
        due("0 at first", x.odds(0), 160);
        int[] years = {0, 1, 9, 10, 11, 19, 20, 29, 30, 69, 70, 79};
        for (int y : years) {
            due("w behind " + y + " years", x.asked(0, y), y / 10);
            due("ODDS behind " + y + " years", x.odds(0), 10 * (16 - y / 10));
        }
        for (int no : new int[] {-1, 100, Integer.MIN_VALUE, Integer.MAX_VALUE}) {
            throwsDue(no + " years", WRONG, () -> x.asked(0, no));
        }
        due("they stay", x.odds(0), 90);
        for (int no : new int[] {-1, 1, 10, Integer.MIN_VALUE, Integer.MAX_VALUE}) {
            throwsDue("ROW " + no, NO_INDEX, () -> x.asked(no, 0));
            throwsDue("ROW " + no + " goes ahead of years", NO_INDEX, () -> x.asked(no, 100));
        }
    }

    /** "WRONG by one more for each 10 of them (8 at most)". */
    private static void eightAtMost() {
        MastSparks x = with(BURNS);
        x.row(0, 0, 3, 1, 0);
        x.row(0, 0, 3, 1, 8);
        x.row(0, 0, 3, 1, 7);
        due("79 years", x.asked(0, 79), 7);
        due("80 years", x.asked(0, 80), 8);
        due("90 years", x.asked(0, 90), 8);
        due("99 years", x.asked(0, 99), 8);
        due("told 8, 0 years", x.asked(1, 0), 8);
        due("told 8, 10 years", x.asked(1, 10), 8);
        due("told 8, 99 years", x.asked(1, 99), 8);
        due("told 7, 9 years", x.asked(2, 9), 7);
        due("told 7, 10 years", x.asked(2, 10), 8);
        due("told 7, 20 years", x.asked(2, 20), 8);
        due("ODDS", x.odds(0), 10 * 8 * 8 * 8);
    }

    /** "than it was told": the years do not add up, and fewer of them count less again. */
    private static void thanItWasTold() {
        MastSparks x = with(BURNS);
        x.row(0, 0, 3, 1, 2);
        due("30 years", x.asked(0, 30), 5);
        due("30 years again", x.asked(0, 30), 5);
        due("99 years", x.asked(0, 99), 8);
        due("10 years", x.asked(0, 10), 3);
        due("0 years", x.asked(0, 0), 2);
        due("as it was told", x.odds(0), 140);
    }

    /** Promise 19, "LANDINGS before that did not burn, 10 at most", "-1: there are 10". */
    private static void tenBefore() {
        MastSparks x = with(BURNS, "");
        due("burnt of none", x.burnt(0), 0);
        for (int i = 1; i <= 10; i++) {
            throwsDue("one that is none is not counted", WRONG, () -> x.before(100, 0));
            due("before " + i, x.before(0, 0), i);
            due("count " + i, x.count(2), i);
            due("burnt of " + i, x.burnt(0), i);
            due("not burnt of " + i, x.burnt(1), 0);
        }
        due("an 11th", x.before(0, 0), -1);
        due("ten", x.count(2), 10);
        due("burnt of ten", x.burnt(0), 10);
        throwsDue("an 11th that is none", WRONG, () -> x.before(100, 0));
    }

    /** Promise 19, "IllegalArgumentException: RAIN, CHARGE". */
    private static void rainAndCharge() {
        MastSparks x = with("leak 3 1 from 0;spark 3 if wet=9900 and gap=0;", "leak 3 1 from 0;spark 3 if gap=999;");
        x.set(3, 99);
        x.set(4, 0);
        due("the least", x.before(0, 0), 1);
        due("it burns by none", x.burnt(0) + x.burnt(1), 0);
        due("the most", x.before(99, 999), 2);
        due("its RAIN is not enough by itself", x.burnt(0), 0);
        due("its CHARGE counts", x.burnt(1), 1);
        due("the most RAIN", x.before(99, 0), 3);
        due("its RAIN counts", x.burnt(0), 1);
        due("the most CHARGE", x.before(0, 999), 4);
        due("without RAIN nothing leads", x.burnt(1), 1);
        for (int no : new int[] {-1, 100, Integer.MIN_VALUE, Integer.MAX_VALUE}) {
            throwsDue("RAIN " + no, WRONG, () -> x.before(no, 0));
        }
        for (int no : new int[] {-1, 1000, Integer.MIN_VALUE, Integer.MAX_VALUE}) {
            throwsDue("CHARGE " + no, WRONG, () -> x.before(0, no));
        }
        due("four", x.count(2), 4);
    }

    /** "(with that RAIN and CHARGE, unless it sets them)". */
    private static void burntUnlessSet() {
        String gap = "leak 3 1 from 0;spark 3 if gap>0;";
        MastSparks x = with(gap, gap + "set 0 2;", gap + "set 2 200;", gap + "set 0 2;set 2 200;", gap + "set 0 0;");
        x.before(0, 0);
        x.before(0, 200);
        x.before(2, 0);
        x.before(2, 200);
        due("as it was", x.burnt(0), 1);
        due("it sets RAIN", x.burnt(1), 2);
        due("it sets CHARGE", x.burnt(2), 2);
        due("it sets both", x.burnt(3), 4);
        due("it sets RAIN to 0", x.burnt(4), 0);
        x.set(0, 50);
        x.set(2, 999);
        due("RAIN and CHARGE of now are no matter", x.burnt(0), 1);
        // Fire in SECOND 99 is fire, and needs no DOWN.
        MastSparks late = with("leak 3 1 from 0;spark 3 if second=99;set 7 0;", "leak 3 1 from 0;spark 3 if second=100;");
        late.before(0, 0);
        due("in SECOND 99", late.burnt(0), 1);
        due("not behind it", late.burnt(1), 0);
    }

    /** "Its ODDS are parted by two for each (cut)". */
    private static void partedByTwo() {
        int[] weights = {1, 3, 15, 99};
        for (int weight : weights) {
            MastSparks x = with(BURNS, "");
            x.weigh(0, weight);
            long odds = weight;
            for (int i = 1; i <= 10; i++) {
                x.before(0, 0);
                odds = odds / 2;
                due(weight + " parted " + i + " times", x.odds(0), odds);
            }
            due("the other is not", x.odds(1), 10);
        }
        MastSparks x = with(BURNS, "");
        x.row(0, 0, 3, 1, 1);
        x.weigh(0, 1);
        x.before(0, 0);
        x.before(0, 0);
        due("cut behind all ROWS, not ahead of them", x.odds(0), 3);
        due("of 1,000", x.share(0), 3 * 1000 / 13);
    }

    /** "no such WHY (so below)", "no such ROW (so below)". */
    private static void noSuchWhyOrRow() {
        MastSparks x = with("", "");
        x.row(0, 0, 0, 0, 0);
        x.row(0, 0, 0, 0, 0);
        due("the last WHY", x.odds(1), 2560);
        due("the last ROW", x.says(1, 1), true);
        for (int no : new int[] {-1, 2, 6, 10, Integer.MIN_VALUE, Integer.MAX_VALUE}) {
            throwsDue("odds of " + no, NO_WHY, () -> x.odds(no));
            throwsDue("share of " + no, NO_WHY, () -> x.share(no));
            throwsDue("burnt of " + no, NO_WHY, () -> x.burnt(no));
            throwsDue("says of " + no, NO_WHY, () -> x.says(no, 0));
            throwsDue("moved of " + no, NO_WHY, () -> x.moved(no, 0));
            throwsDue("says of ROW " + no, NO_INDEX, () -> x.says(0, no));
            throwsDue("moved of ROW " + no, NO_INDEX, () -> x.moved(0, no));
            throwsDue("says of neither", NO_WHY, () -> x.says(no, no));
            throwsDue("moved of neither", NO_WHY, () -> x.moved(no, no));
        }
    }
}
