/** The boundary cases of the TAPE and of texts: the document's Terms, and promises 2 to 4. */
public final class BoundsOfTextsTest extends Checks {
    private static final String FOURTEEN = "set 5 3;".repeat(14);
    /** The greatest value of 32 bits, of numbers that a text may hold. */
    private static final String GREATEST = "9999*9999*21+9999*4790+8416";
    private static final String PARTS =
            "leak spark set from if or and not second gap wet height mixed gas fire 7 ( ) [ ] < > = + - * ; x";
    private static final String UNITS = " second gap wet height mixed gas fire 7 ( ";

    public static void main(String[] args) {
        fedBytes();
        fedFull();
        bytesAreRead();
        bytesOfAWhy();
        emptyThen();
        sixWhys();
        placeOfTheLatest();
        threeHundredBytes();
        cells();
        leakNumbers();
        setNumbers();
        numbersOfConditions();
        digits();
        words();
        blanks();
        otherBytes();
        manyParts();
        deepParts();
        longTexts();
        tooEarly();
        whatCanStandThere();
        firstFromTheLeft();
        fourteenClauses();
        sixOpen();
        notTillItsEnd();
        leastOfOne();
        valuesWrap();
        fireIsOneOrNone();
        end("BoundsOfTextsTest");
    }

    private static String blank(int many) {
        return " ".repeat(many);
    }

    /** Whether a condition holds for CELL 3 in SECOND 0, with one part of its gas mixed. */
    private static void holdsDue(String condition, boolean want) {
        MastSparks x = with("leak 3 1 from 0;spark 3 if " + condition + ";");
        due(condition, x.cell(0, 0, 3, 2) == 0, want);
    }

    /** Promise 2, "Twenty bytes ..: how many there are". */
    private static void fedBytes() {
        MastSparks x = new MastSparks();
        due("none at first", x.count(5), 0);
        due("the first twenty", x.feed(0, 0, 0, 0, 0), 20);
        due("they are there", x.count(5), 20);
        due("twenty more", x.feed(-1, Integer.MIN_VALUE, Integer.MAX_VALUE, 1, 0), 40);
    }

    /** Promise 2, "NONE, doing nothing, if there would be more than 300". */
    private static void fedFull() {
        MastSparks x = new MastSparks();
        for (int i = 1; i < 15; i++) {
            due("feed " + i, x.feed(0x20202020, 0x20202020, 0x20202020, 0x20202020, 0x20202020), 20 * i);
        }
        // "   set 5 3;set 9 77;"
        due("up to 300", x.feed(0x20202073, 0x65742035, 0x20333b73, 0x65742039, 0x2037373b), 300);
        due("beyond 300", x.feed(0, 0, 0, 0, 0), NONE);
        due("once more", x.feed(-1, -1, -1, -1, -1), NONE);
        due("300 stay", x.count(5), 300);
        due("as they were", x.why(300), 0);
        due("to the last", x.state(0, 0, 4), 77);
        due("room again", x.feed(0, 0, 0, 0, 0), 20);
    }

    /** Promise 2, "of each number the highest first": also where the highest bit is set. */
    private static void bytesAreRead() {
        int blanks = 0x20202020;
        int[] numbers = {blanks, blanks, blanks, blanks, blanks};
        for (int place = 0; place < 20; place++) {
            for (int wrong : new int[] {0, 127, 128, 255}) {
                int[] n = numbers.clone();
                int shift = 24 - 8 * (place % 4);
                n[place / 4] = n[place / 4] & ~(255 << shift) | wrong << shift;
                MastSparks x = new MastSparks();
                x.feed(n[0], n[1], n[2], n[3], n[4]);
                due("byte " + wrong + " at " + place, x.why(20), -9);
                due("its place", x.fault(), place);
            }
        }
    }

    /** Promise 3, "n is not 0 to the TAPE's bytes (it stays)". */
    private static void bytesOfAWhy() {
        MastSparks empty = new MastSparks();
        throwsDue("1 of none", WRONG, () -> empty.why(1));
        throwsDue("-1 of none", WRONG, () -> empty.why(-1));
        due("0 of none", empty.why(0), 0);
        MastSparks x = new MastSparks();
        feedText(x, "set 9 77;" + blank(11));
        for (int n : new int[] {-1, 21, 300, 301, Integer.MIN_VALUE, Integer.MAX_VALUE}) {
            throwsDue("why(" + n + ") of 20", WRONG, () -> x.why(n));
            due("the TAPE stays", x.count(5), 20);
        }
        due("no WHY of it", x.count(0), 0);
        due("all 20", x.why(20), 0);
        due("as they were", x.state(0, 0, 4), 77);
        MastSparks full = new MastSparks();
        feedText(full, blank(300));
        throwsDue("301 of 300", WRONG, () -> full.why(301));
        due("300 of 300", full.why(300), 0);
    }

    /** Promise 3, "The first n bytes of the TAPE (empty then)". */
    private static void emptyThen() {
        MastSparks x = new MastSparks();
        feedText(x, "set 9 77;set 9 66;");
        due("none of them", x.why(0), 0);
        due("empty behind it", x.count(5), 0);
        due("an empty WHY", x.state(0, 0, 4), 90);
        feedText(x, "set 9 77;set 9 66;");
        due("nine of them", x.why(9), 1);
        due("empty behind it", x.count(5), 0);
        due("the nine alone", x.state(1, 0, 4), 77);
        feedText(x, "sat 9 77;set 9 66;");
        due("with a FAULT", x.why(9), -9);
        due("empty behind it, too", x.count(5), 0);
        throwsDue("nothing is left", WRONG, () -> x.why(1));
        feedText(x, "set 9 55;");
        due("what is fed then is the first", x.why(9), 2);
        due("and counts", x.state(2, 0, 4), 55);
    }

    /** Promise 3, "WHYS, numbered from 0 on, 6 at most", "-1: there are 6". */
    private static void sixWhys() {
        MastSparks x = new MastSparks();
        for (int i = 0; i < 6; i++) {
            due("a text with a FAULT has no number", tell(x, "set 5 0;"), -8);
            due("WHYS ahead of " + i, x.count(0), i);
            due("why " + i, tell(x, "set 9 7" + i + ";"), i);
        }
        due("a 7th", tell(x, "set 9 99;"), -1);
        due("six", x.count(0), 6);
        due("a 7th is not read", tell(x, "set 5 0;"), -1);
        due("it has no FAULT", x.fault(), NONE);
        due("the TAPE is empty behind it", x.count(5), 0);
        feedText(x, "set 9 99;");
        throwsDue("n goes first", WRONG, () -> x.why(21));
        due("and the TAPE stays", x.count(5), 20);
        for (int i = 0; i < 6; i++) {
            due("WHY " + i + " stays", x.state(i, 0, 4), 70 + i);
        }
        throwsDue("there is no WHY 6", NO_WHY, () -> x.state(6, 0, 4));
    }

    /** Promise 4, "The place of the FAULT of the latest why(); NONE without". */
    private static void placeOfTheLatest() {
        MastSparks x = new MastSparks();
        due("no why() yet", x.fault(), NONE);
        tell(x, "set 5 3;  ;");
        due("a place", x.fault(), 10);
        due("it stays", x.fault(), 10);
        x.feed(0, 0, 0, 0, 0);
        due("behind a feed", x.fault(), 10);
        throwsDue("no why() at all", WRONG, () -> x.why(21));
        due("behind one that is refused", x.fault(), 10);
        x.why(1);
        due("place 0", x.fault(), 0);
        tell(x, "set 5 3;");
        due("NONE without", x.fault(), NONE);
    }

    /** Terms, "texts of up to 300 bytes". */
    private static void threeHundredBytes() {
        due("the last byte counts", with(blank(291) + "set 9 77;").state(0, 0, 4), 77);
        faultDue(blank(300 - 8) + "set 9 77", 1, 300);
        faultDue(blank(299) + ";", 1, 299);
        faultDue(";" + blank(299), 1, 0);
        fine(blank(300));
        fine("");
        fine("set 9 " + "0".repeat(291) + "77;");
        faultDue("set 9 " + "7".repeat(293) + ";", 2, 6);
        faultDue("x".repeat(300), 1, 0);
        faultDue(";".repeat(300), 1, 0);
        faultDue(";1".repeat(150), 1, 0);
        faultDue("set 9 77;" + "x".repeat(291), 1, 9);
    }

    /** Terms, "CELLS 0 (the bow) to 7 (the tail)": the K of leaks and sparks. */
    private static void cells() {
        MastSparks x = with("leak 0 5 from 0;spark 0 if 1=1;", "leak 7 5 from 0;spark 7 if 1=1;");
        due("CELL 0", x.run(0, 1), 0);
        due("CELL 7", x.run(1, 1), 7);
        faultDue("leak 8 5 from 0;", 2, 5);
        faultDue("leak 10 5 from 0;", 2, 5);
        faultDue("leak -1 5 from 0;", 1, 5);
        faultDue("spark 8 if 1=1;", 2, 6);
        faultDue("spark -1 if 1=1;", 1, 6);
        faultDue("spark 70 if 1=1;", 2, 6);
    }

    /** Terms, "leak K N from S (.. N 0 to 99 a SECOND, S 0 to 99)". */
    private static void leakNumbers() {
        MastSparks x = with("leak 2 0 from 0;", "leak 2 99 from 0;", "leak 2 1 from 99;");
        due("N 0", x.cell(0, 99, 2, 1), 0);
        due("N 99", x.cell(1, 0, 2, 1), 99);
        due("S 99, ahead of it", x.cell(2, 98, 2, 1), 0);
        due("S 99", x.cell(2, 99, 2, 1), 1);
        faultDue("leak 2 100 from 0;", 2, 7);
        faultDue("leak 2 -1 from 0;", 1, 7);
        faultDue("leak 2 5 from 100;", 2, 14);
        faultDue("leak 2 5 from -1;", 1, 14);
    }

    /** Terms, "set M N (M 0 to 9: the LANDING's number is N, within its bounds)"; FAULT 2, "also the N of a set". */
    private static void setNumbers() {
        for (int i = 0; i < 10; i++) {
            fine("set " + i + " " + LOW[i] + ";");
            fine("set " + i + " " + HIGH[i] + ";");
            faultDue("set " + i + " " + (HIGH[i] + 1) + ";", 2, 6);
            faultDue("set " + i + " -1;", 1, 6);
        }
        faultDue("set 5 0;", 2, 6);
        faultDue("set 10 5;", 2, 4);
        faultDue("set 15 5;", 2, 4);
        faultDue("set -1 5;", 1, 4);
        MastSparks x = with("set 0 0;", "set 0 99;", "set 2 0;", "set 2 999;", "set 9 0;", "set 9 999;");
        due("RAIN 0", x.state(0, 9, 0), 0);
        due("RAIN 99", x.state(1, 9, 0), 990);
        due("CHARGE 0", x.state(2, 0, 1), 0);
        due("CHARGE 999", x.state(3, 0, 1), 999);
        due("HEIGHT 0", x.state(4, 0, 4), 0);
        due("HEIGHT 999", x.state(5, 0, 4), 999);
    }

    /** Terms, "N (0 to 9,999)" in a condition. */
    private static void numbersOfConditions() {
        holdsDue("0=0", true);
        holdsDue("9999=9998+1", true);
        faultDue("spark 3 if 10000>1;", 2, 11);
        faultDue("spark 3 if 1<10000;", 2, 13);
        faultDue("spark 3 if 1<(2+10000);", 2, 16);
        faultDue("spark 3 if 1<2*10000;", 2, 15);
        faultDue("spark 3 if 1<-1;", 1, 13);
        faultDue("spark 3 if 1<99990;", 2, 13);
        faultDue("spark 3 if 1<99999;", 2, 13);
        faultDue("spark 3 if 1<99980;", 2, 13);
        // What a narrower number would wrap to 1.
        faultDue("spark 3 if 1<65537;", 2, 13);
        faultDue("spark 3 if 1<4294967297;", 2, 13);
        faultDue("spark 3 if 1<18446744073709551617;", 2, 13);
    }

    /** Terms, "N: digits, as many as stand there". */
    private static void digits() {
        fine("leak 0007 0099 from 00099;");
        faultDue("leak 00008 5 from 0;", 2, 5);
        faultDue("leak 75 from 0;", 2, 5);
        faultDue("leak 7 5from0 ;5", 1, 15);
        faultDue("set 53;", 2, 4);
        faultDue("set 5 3 3;", 1, 8);
        holdsDue("00000010=10", true);
        faultDue("set 5 3:", 1, 7);
        faultDue("set 5 /3;", 1, 6);
    }

    /** Terms, "WORDS: small letters, as many as stand there". */
    private static void words() {
        String[] known = {"leak 7 5 from 0;", "spark 7 if 1=1;", "set 5 3;"};
        for (String clause : known) {
            fine(clause);
            faultDue("x" + clause, 1, 0);
            faultDue(clause.substring(1), 1, 0);
            faultDue(clause.replace(" 7", "s 7").replace("t 5", "ts 5"), 1, 0);
            faultDue(clause.substring(0, 1).toUpperCase() + clause.substring(1), 1, 0);
        }
        String[] seen = {"second", "gap", "wet", "height", "mixed", "gas", "fire"};
        for (String word : seen) {
            fine("spark 7 if " + word + "=1;");
            fine("spark 7 if 1=" + word + ";");
            faultDue("spark 7 if " + word + "a=1;", 1, 11);
            faultDue("spark 7 if " + word + "z=1;", 1, 11);
            faultDue("spark 7 if " + word.substring(0, word.length() - 1) + "=1;", 1, 11);
            faultDue("spark 7 if " + word.substring(1) + "=1;", 1, 11);
            // The bytes beside a and z are signs that can't stand there.
            faultDue("spark 7 if " + word + "`=1;", 1, 11 + word.length());
            faultDue("spark 7 if " + word + "{=1;", 1, 11 + word.length());
            faultDue("spark 7 if " + word + "A=1;", 1, 11 + word.length());
        }
        faultDue("spark 7 if 1=1 ands 1=1;", 1, 15);
        faultDue("spark 7 if 1=1 ors 1=1;", 1, 15);
        faultDue("spark 7 if 1=1 orand 1=1;", 1, 15);
        faultDue("spark 7 if nots 1=1;", 1, 11);
        faultDue("spark 7 if notgap=1;", 1, 11);
        faultDue("leak 7 5 froms 0;", 1, 9);
        faultDue("spark 7 ifgap=1;", 1, 8);
    }

    /** Terms, "blanks (32) may stand ahead of all these, and at the end". */
    private static void blanks() {
        fine("leak7 10from3;spark7if[gap+2*(wet-1)>3]or not fire=0and second<5;set5 3;");
        fine("  leak  7  10  from  3  ;  spark  7  if  [  gap  +  2  *  (  wet  -  1  )  >  3  ]  ;  set  5  3  ;  ");
        fine(" ");
        faultDue("l eak 7 10 from 3;", 1, 0);
        faultDue("leak 7 1 0 from 3;", 1, 9);
        faultDue("  ;  ", 1, 2);
    }

    /** FAULT 1 for each byte that is no blank, digit, small letter or sign of the text. */
    private static void otherBytes() {
        for (int sign = 0; sign < 256; sign++) {
            String put = String.valueOf((char) sign);
            boolean sets = sign == ' ';
            boolean number = sign >= '0' && sign <= '9';
            if (sets) {
                fine("set 9 77;" + put);
            } else {
                faultDue("set 9 77;" + put, 1, 9);
            }
            if (!sets && !number && sign != ';') {
                faultDue("set 9 77" + put + ";", 1, 8);
                faultDue("set " + put + "9 77;", 1, 4);
            }
            if (!sets && !number && "+-*<>=".indexOf(sign) < 0) {
                faultDue("spark 7 if 1" + put + "2=1;", 1, 12);
            }
        }
    }

    /** Terms, "{ or A }", "{ and B }", "{ + or - T }", "{ * U }": from none to as many as 300 bytes hold. */
    private static void manyParts() {
        holdsDue("0=1" + "or 0=1".repeat(43), false);
        holdsDue("0=1" + "or 0=1".repeat(42) + "or 1=1", true);
        holdsDue("1=1" + "or 0=1".repeat(43), true);
        holdsDue("1=1" + "and 1=1".repeat(36), true);
        holdsDue("1=1" + "and 1=1".repeat(35) + "and 1=2", false);
        holdsDue("1=2" + "and 1=1".repeat(36), false);
        holdsDue("1" + "+1".repeat(133) + "=134", true);
        holdsDue("200" + "-1".repeat(130) + "=70", true);
        holdsDue("7" + "*1".repeat(133) + "=7", true);
        holdsDue("1" + "*2".repeat(30) + ">0", true);
        holdsDue("1" + "*2".repeat(31) + "<0", true);
        holdsDue("1" + "*2".repeat(32) + "=0", true);
    }

    /** The deepest that six open ones allow, with a part of each sign waiting at each of them. */
    private static void deepParts() {
        String waiting = "1=2or 1=1and[";
        holdsDue(waiting.repeat(6) + "1=2or 1=1and 7=1+2*3" + "]".repeat(6), true);
        holdsDue(waiting.repeat(6) + "1=2or 1=1and 8=1+2*3" + "]".repeat(6), false);
        holdsDue("127=1+2*(1+2*(1+2*(1+2*(1+2*(1+2*(1))))))", true);
        holdsDue("1+2*(1+2*(1+2*(1+2*(1+2*(1+2*(1))))))=127", true);
        holdsDue("1+2*(1+2*(1+2*(1+2*(1+2*(1+2*(1))))))=126", false);
        holdsDue(waiting.repeat(3) + "1=2or 1=1and 15=1+2*(1+2*(1+2*(1)))" + "]".repeat(3), true);
        holdsDue(waiting.repeat(3) + "1=2or 1=1and 14=1+2*(1+2*(1+2*(1)))" + "]".repeat(3), false);
        holdsDue("not not not not not not 1=1", true);
        holdsDue("not not not not not 1=1", false);
    }

    /** Six WHYS of 300 bytes each, with longer ones that have a FAULT between them: each is read from its own start. */
    private static void longTexts() {
        MastSparks x = new MastSparks();
        for (int i = 0; i < 6; i++) {
            String start = "leak 3 1 from 0;spark 3 if second=" + i;
            String text = start + "and 1=1".repeat((299 - start.length()) / 7);
            due("a FAULT ahead of it", tell(x, "spark 3 if 1" + "+1".repeat(142) + ";"), -9);
            due("long text " + i, tell(x, text + blank(299 - text.length()) + ";"), i);
        }
        for (int i = 0; i < 6; i++) {
            due("it holds as it says", x.run(i, 0), i);
        }
    }

    /** FAULT 1, "at the length, if the text ends too early": a text cut at each of its bytes. */
    private static void tooEarly() {
        String text = "leak 7 10 from 3 ; spark 6 if not [ gap + 2 * ( wet - 1 ) > 3 or fire = 0 and second < 5 ] ;"
                + " set 5 3 ;";
        String[] parts = text.split(" ");
        int place = 0;
        boolean whole = true;
        for (String part : parts) {
            boolean word = Character.isLetter(part.charAt(0));
            for (int n = place + 1; n < place + part.length(); n++) {
                // A word that is cut is another word; of digits fewer may stand as well.
                faultDue(text.substring(0, n), 1, word ? place : n);
            }
            whole = part.equals(";");
            place += part.length();
            cutDue(text.substring(0, place), whole);
            cutDue(text.substring(0, place) + " ", whole);
            cutDue(text.substring(0, place) + blank(9), whole);
            place++;
        }
        due("to its end", whole, true);
    }

    private static void cutDue(String text, boolean whole) {
        if (whole) {
            fine(text);
        } else {
            faultDue(text, 1, text.length());
        }
    }

    /** FAULT 1, "what can't stand there": each part of a text in each place of each CLAUSE. */
    private static void whatCanStandThere() {
        String clauses = " leak spark set ";
        String signs = " + - * < > = ";
        allowedDue("leak 7 5 from 0 ;".split(" "), new String[] {clauses, " 7 ", " 7 ", " from ", " 7 ", " ; "});
        allowedDue("set 9 5 ;".split(" "), new String[] {clauses, " 7 ", " 7 ", " ; "});
        String basic = UNITS + "not [ ";
        String ends = " + - * or and ; ";
        allowedDue("spark 7 if gap > 1 ;".split(" "), new String[] {clauses, " 7 ", " if ", basic, signs, UNITS, ends});
        allowedDue("spark 7 if not [ gap > 1 ] ;".split(" "), new String[] {clauses, " 7 ", " if ", basic, basic, basic,
            signs, UNITS, " + - * or and ] ", " or and ; "});
        allowedDue("spark 7 if ( gap + 1 ) > 1 or wet < 2 and fire = 0 ;".split(" "), new String[] {clauses, " 7 ",
            " if ", basic, UNITS, " + - * ) ", UNITS, " + - * ) ", signs, UNITS, ends, basic, signs, UNITS, ends, basic,
            signs, UNITS, ends});
    }

    /** Puts each part in each place: where it can't stand the FAULT is there, else there is none at or ahead of it. */
    private static void allowedDue(String[] text, String[] allowed) {
        for (int at = 0; at < text.length; at++) {
            StringBuilder ahead = new StringBuilder();
            for (int i = 0; i < at; i++) {
                ahead.append(text[i]).append(' ');
            }
            for (String part : PARTS.split(" ")) {
                StringBuilder put = new StringBuilder(ahead).append(part);
                for (int i = at + 1; i < text.length; i++) {
                    put.append(' ').append(text[i]);
                }
                if (allowed[at].contains(" " + part + " ")) {
                    MastSparks x = new MastSparks();
                    tell(x, put.toString());
                    due("<" + put + "> is fine there", x.fault() == NONE || x.fault() > ahead.length(), true);
                } else {
                    faultDue(put.toString(), 1, ahead.length());
                }
            }
        }
    }

    /** "FAULTS, the first from the left, at its first byte". */
    private static void firstFromTheLeft() {
        faultDue("leak 8 100 from 100;", 2, 5);
        faultDue("leak 7 100 for 100;", 2, 7);
        faultDue("leak 7 10 for 100;", 1, 10);
        faultDue("set 5    0021;", 2, 9);
        faultDue("set 11 5000;set", 2, 4);
        faultDue("set 5 3;   sett 5 0;", 1, 11);
        faultDue("spark 3 if (((((((1=20000;", 3, 17);
        faultDue("spark 3 if 20000=(((((((1;", 2, 11);
        faultDue(FOURTEEN + "  set 5 0;", 3, 114);
        faultDue("set 5 0;" + FOURTEEN, 2, 6);
    }

    /** Terms, "At most 14 CLAUSES"; FAULT 3, "a 15th CLAUSE". */
    private static void fourteenClauses() {
        due("the 14th counts", with("set 9 9;".repeat(13) + "set 9 77;").state(0, 0, 4), 77);
        fine(FOURTEEN);
        fine(FOURTEEN + "   ");
        String[] lasts = {"set 5 3;", "leak 7 5 from 0;", "spark 7 if 1=1;", "set", "leak 99", "spark if"};
        for (String last : lasts) {
            faultDue(FOURTEEN + last, 3, 112);
            faultDue(FOURTEEN + "  " + last, 3, 114);
        }
        String mixed = "leak 7 5 from 0;spark 7 if 1=1;set 5 3;".repeat(4) + "leak 7 5 from 0;set 5 3;";
        fine(mixed);
        faultDue(mixed + "spark 7 if 1=1;", 3, mixed.length());
        MastSparks x = new MastSparks();
        tell(x, FOURTEEN + "set 5 3;");
        due("each text has 14 of its own", tell(x, FOURTEEN), 0);
        due("and the next", tell(x, FOURTEEN), 1);
    }

    /** FAULT 3, "a 7th of ( [ and not that is open at one time". */
    private static void sixOpen() {
        String clause = "spark 3 if ";
        fine(clause + "[[[[[[1=1]]]]]];");
        faultDue(clause + "[[[[[[[1=1]]]]]]];", 3, 17);
        fine(clause + "((((((1))))))=1;");
        faultDue(clause + "(((((((1)))))))=1;", 3, 17);
        fine(clause + "1=((((((1))))));");
        faultDue(clause + "1=(((((((1)))))));", 3, 19);
        fine(clause + "not not not not not not 1=1;");
        faultDue(clause + "not not not not not not not 1=1;", 3, 35);
        fine(clause + "not[not[not(1)=1]];");
        faultDue(clause + "not[not[not((1))=1]];", 3, 23);
        faultDue(clause + "not[not[not[[1=1]]]];", 3, 23);
        faultDue(clause + "not[not[not[not 1=1]]];", 3, 23);
        faultDue(clause + "[[[[[[(1)=1]]]]]];", 3, 17);
        faultDue(clause + "[[[[[[not 1=1]]]]]];", 3, 17);
        // One that is closed is not open any more: 6 and 6 again, on both sides and in a CLAUSE of its own.
        fine(clause + "[[[[[[1=1]]]]]]and[[[[[[1=1]]]]]]or[[[[[[1=1]]]]]];");
        fine(clause + "((((((1))))))+((((((1))))))*((((((1))))))=((((((1))))));");
        fine((clause + "[[[[[[1=1]]]]]];").repeat(2));
        faultDue(clause + "[[[[[[1=1]]]]]]and[[[[[[[1=1]]]]]]];", 3, 11 + 15 + 3 + 6);
        faultDue(clause + "[[[[[[1=1]and[[1=1]]]]]]];", 3, 11 + 6 + 3 + 1 + 3 + 1);
        fine(clause + "[[[[[[1=1]and[1=1]]]]]];");
    }

    /** FAULT 3, "(a not till its B ends)". */
    private static void notTillItsEnd() {
        String clause = "spark 3 if ";
        String five = "not ".repeat(5);
        String six = "not ".repeat(6);
        fine(clause + six + "1=1 and " + six + "1=1 or " + six + "1=1;");
        faultDue(clause + six + "1=1 and " + six + "not 1=1;", 3, 11 + 24 + 8 + 24);
        fine(clause + five + "(1)=1;");
        faultDue(clause + six + "(1)=1;", 3, 35);
        // Its B goes on behind the sign between both sides.
        fine(clause + five + "1=(1);");
        faultDue(clause + six + "1=(1);", 3, 37);
        fine(clause + six + "1=1 and (1)=1;");
        fine(clause + five + "[1=1];");
        faultDue(clause + six + "[1=1];", 3, 35);
        fine(clause + six + "1=1 or [1=1];");
        fine(clause + five + "[1=1 and 1=1] and " + six + "1=1;");
        faultDue(clause + five + "[1=1 and not 1=1];", 3, 11 + 20 + 1 + 8);
        fine(clause + "[[" + "not ".repeat(4) + "1=1]and[" + "not ".repeat(4) + "1=1]];");
    }

    /** "of one the least": what can't stand there is FAULT 1, even if it is a number too great, or one too many. */
    private static void leastOfOne() {
        faultDue(FOURTEEN + "lea", 1, 112);
        faultDue(FOURTEEN + "from", 1, 112);
        faultDue(FOURTEEN + ";", 1, 112);
        faultDue(FOURTEEN + "99999", 1, 112);
        faultDue("99999", 1, 0);
        faultDue("leak 7 5 99999", 1, 9);
        faultDue("spark 3 if 1=1 99999;", 1, 15);
        faultDue("spark 3 if ((((((1[;", 1, 18);
        faultDue("spark 3 if (((((([1]))))))=1;", 1, 17);
        faultDue("spark 3 if ((((((not 1))))))=1;", 1, 17);
        faultDue("spark 3 if [[[[[[1[;", 1, 18);
        faultDue("spark 3 if [[[[[[1=1(;", 1, 20);
        faultDue("spark 3 if [[[[[[1=not 1;", 1, 19);
        faultDue("spark 3 if [[[[[[1=[;", 1, 19);
        faultDue("set 99999 99999", 2, 4);
        faultDue("set 5 99999 99999", 2, 6);
    }

    /** Terms, "VALUES are whole numbers of 32 bits that wrap". */
    private static void valuesWrap() {
        holdsDue(GREATEST + ">0", true);
        holdsDue(GREATEST + "+1<0", true);
        holdsDue(GREATEST + "+1=0-(" + GREATEST + ")-1", true);
        holdsDue("0-(" + GREATEST + ")<0", true);
        holdsDue("0-(" + GREATEST + ")-1<0", true);
        holdsDue("0-(" + GREATEST + ")-2>0", true);
        holdsDue("0-(" + GREATEST + ")-2=" + GREATEST, true);
        holdsDue("(" + GREATEST + ")*2=0-2", true);
        holdsDue("(" + GREATEST + "+1)*2=0", true);
        // Compared as they are, not by what is between them: that would wrap, too.
        holdsDue("0-2<" + GREATEST, true);
        holdsDue("0-2>" + GREATEST, false);
        holdsDue(GREATEST + ">0-2", true);
        holdsDue("9999*9999*9999=0-(0-9999*9999*9999)", true);
    }

    /** Terms, "fire (1 or 0)". */
    private static void fireIsOneOrNone() {
        holdsDue("fire=0", true);
        holdsDue("fire=1", false);
        // CELL 2 has its fire from SECOND 4 on: the second spark of it, behind the first, sees a 1 and no more.
        MastSparks x = with("leak 3 1 from 0;spark 3 if second=4;spark 3 if fire=1;",
                "leak 3 1 from 0;spark 3 if fire>0;", "leak 3 1 from 0;spark 3 if fire*5+second=5;");
        due("since it began", x.cell(0, 9, 3, 2), 4);
        due("none by itself", x.run(1, 0), NONE);
        due("0 till then", x.run(2, 0), 5);
    }
}
