import java.util.Arrays;
import java.util.NoSuchElementException;

/**
 * A ship of eight CELLS of gas that comes in, WHYS of its fire as texts, a RUN by each of them, and what is to be held
 * of them by what was seen. The document's words in capitals are used here as it uses them.
 */
public final class MastSparks {
    public static final int NONE = -1;

    private static final int CELLS = 8;
    private static final int SECONDS = 100;
    private static final int NUMBERS = 10;
    private static final int MOST_BYTES = 300;
    private static final int FED_NUMBERS = 5;
    private static final int FED_BYTES = 20;
    private static final int MOST_WHYS = 6;
    private static final int MOST_CLAUSES = 14;
    private static final int MOST_OPEN = 6;
    private static final int MOST_ROWS = 10;
    private static final int MOST_BEFORE = 10;
    private static final int MOST_OPTIONS = 5;
    private static final int MOST_IMAGES = 3;
    private static final int MOST_GAS = 999;
    private static final int MOST_COST = 999;
    private static final int MOST_WEIGHT = 99;
    private static final int MOST_YEARS = 99;
    private static final int MOST_WRONG = 8;
    private static final int FIRST_GAS = 100;
    private static final int FIRST_WEIGHT = 10;

    private static final int RAIN = 0;
    private static final int LEADS = 1;
    private static final int CHARGE = 2;
    private static final int FRAME = 3;
    private static final int SKIN = 4;
    private static final int SPREAD = 5;
    private static final int BURN = 6;
    private static final int LIFT = 7;
    private static final int SINK = 8;
    private static final int HEIGHT = 9;
    private static final int[] LEAST_NUMBERS = {0, 0, 0, 0, 0, 1, 0, 0, 0, 0};
    private static final int[] MOST_NUMBERS = {99, 999, 999, 99, 99, 20, 99, 9999, 99, 999};
    private static final int[] FIRST_NUMBERS = {2, 20, 200, 15, 3, 2, 20, 600, 6, 90};

    // In the code of a condition a number of the text stands for itself; all else is below 0, so that they never meet.
    private static final int CODE_SECOND = -1;
    private static final int CODE_GAP = -2;
    private static final int CODE_WET = -3;
    private static final int CODE_HEIGHT = -4;
    private static final int CODE_MIXED = -5;
    private static final int CODE_GAS = -6;
    private static final int CODE_FIRE = -7;
    private static final int CODE_NOT = -8;
    private static final int CODE_AND = -9;
    private static final int CODE_OR = -10;
    private static final int CODE_LESS = -11;
    private static final int CODE_MORE = -12;
    private static final int CODE_SAME = -13;
    private static final int CODE_PLUS = -14;
    private static final int CODE_MINUS = -15;
    private static final int CODE_TIMES = -16;

    // The other kinds that a part of a text can be of; a sign is of the kind of its own byte, 0 to 255.
    private static final int PART_LEAK = -17;
    private static final int PART_SPARK = -18;
    private static final int PART_SET = -19;
    private static final int PART_FROM = -20;
    private static final int PART_IF = -21;
    private static final int PART_NUMBER = -22;
    private static final int PART_STRANGE_WORD = -23;
    private static final int PART_END = -24;

    private static final int FAULT_NONE = 0;
    private static final int FAULT_PLACE = 1;
    private static final int FAULT_NUMBER = 2;
    private static final int FAULT_LIMIT = 3;

    private static final int ROW_FIRE = 0;
    private static final int ROW_BEGAN = 1;
    private static final int ROW_DOWN = 2;
    private static final int ROW_HEAVY = 3;
    private static final int ROW_LASTED = 4;
    private static final int ROW_GAP = 5;

    private final byte[] tape = new byte[MOST_BYTES];
    private int taped = 0;
    private final Reader reader = new Reader();
    private int faultPlace = NONE;
    private final Why[] whys = new Why[MOST_WHYS];
    private int told = 0;
    private final Papers papers = new Papers();
    private final Papers[] images = new Papers[MOST_IMAGES];
    private int imaged = 0;
    private final Flight flight = new Flight();
    private final Film[] films = new Film[MOST_WHYS];
    private final int[] knownBurnt = new int[MOST_WHYS];
    private final long[] worth = new long[MOST_WHYS];

    public MastSparks() {
        for (int i = 0; i < MOST_WHYS; i++) {
            whys[i] = new Why();
            films[i] = new Film();
            knownBurnt[i] = NONE;
        }
        for (int i = 0; i < MOST_IMAGES; i++) {
            images[i] = new Papers();
        }
    }

    public int feed(int a, int b, int c, int d, int e) {
        if (taped + FED_BYTES > MOST_BYTES) {
            return NONE;
        }
        for (int i = 0; i < FED_NUMBERS; i++) {
            int number = i == 0 ? a : i == 1 ? b : i == 2 ? c : i == 3 ? d : e;
            for (int shift = 24; shift >= 0; shift -= 8) {
                tape[taped] = (byte) (number >> shift);
                taped++;
            }
        }
        return taped;
    }

    public int why(int n) throws IllegalArgumentException {
        if (n < 0 || n > taped) {
            throw new IllegalArgumentException("so many bytes are not on the TAPE");
        }
        taped = 0;
        if (told >= MOST_WHYS) {
            // Whatever its bytes are, it is not read: so it has no FAULT.
            faultPlace = NONE;
            return NONE;
        }
        int fault = reader.read(tape, n);
        faultPlace = reader.faultPlace;
        if (fault != FAULT_NONE) {
            return fault - 10;
        }
        whys[told].copyFrom(reader.draft);
        told++;
        return told - 1;
    }

    public int fault() {
        return faultPlace;
    }

    public int weigh(int why, int v) throws NoSuchElementException, IllegalArgumentException {
        testWhy(why);
        testWithin(v, 1, MOST_WEIGHT);
        int was = papers.weights[why];
        papers.weights[why] = v;
        return was;
    }

    public int set(int which, int v) throws IllegalArgumentException {
        testNumber(which, v);
        int was = papers.numbers[which];
        papers.numbers[which] = v;
        forgetRuns();
        return was;
    }

    public int fill(int cell, int v) throws IndexOutOfBoundsException, IllegalArgumentException {
        testCell(cell);
        testWithin(v, 0, MOST_GAS);
        int was = papers.gas[cell];
        papers.gas[cell] = v;
        forgetRuns();
        return was;
    }

    public int state(int why, int second, int what) throws NoSuchElementException, IllegalArgumentException {
        testWhy(why);
        testWithin(second, 0, SECONDS - 1);
        Film film = filmBy(why);
        switch (what) {
            case 0:
                return film.wet[second];
            case 1:
                return film.skin[second];
            case 2:
                return film.frame[second];
            case 3:
                return film.gapAt(second);
            case 4:
                return film.height[second];
            case 5:
                return film.allGasAt(second);
            case 6:
                return film.heavyAt(second);
            case 7:
                return film.firesAt(second);
            default:
                throw new IllegalArgumentException("no such what");
        }
    }

    public int cell(int why, int second, int cell, int what)
            throws NoSuchElementException, IndexOutOfBoundsException, IllegalArgumentException {
        testWhy(why);
        testCell(cell);
        testWithin(second, 0, SECONDS - 1);
        testWithin(what, 0, 2);
        Film film = filmBy(why);
        if (what == 2) {
            return film.hasFireAt(cell, second) ? film.began[cell] : NONE;
        }
        int place = second * CELLS + cell;
        return what == 0 ? film.gas[place] : film.mixed[place];
    }

    public int run(int why, int what) throws NoSuchElementException, IllegalArgumentException {
        testWhy(why);
        Film film = filmBy(why);
        switch (what) {
            case 0:
                return film.firstSecond;
            case 1:
                return film.firstCell;
            case 2:
                return film.down;
            case 3:
                return film.lasted;
            default:
                throw new IllegalArgumentException("no such what");
        }
    }

    public int row(int kind, int second, int cell, int v, int w) throws IllegalArgumentException {
        testWithin(kind, ROW_FIRE, ROW_GAP);
        testWithin(second, 0, SECONDS - 1);
        testWithin(cell, 0, CELLS - 1);
        testRowValue(kind, v);
        testWithin(w, 0, MOST_WRONG);
        int number = papers.rows;
        if (number >= MOST_ROWS) {
            return NONE;
        }
        papers.rowKinds[number] = kind;
        papers.rowSeconds[number] = second;
        papers.rowCells[number] = cell;
        papers.rowValues[number] = v;
        papers.rowWrongs[number] = w;
        papers.rowYears[number] = 0;
        papers.rows = number + 1;
        return number;
    }

    public int asked(int row, int years) throws IndexOutOfBoundsException, IllegalArgumentException {
        testRow(row);
        testWithin(years, 0, MOST_YEARS);
        papers.rowYears[row] = years;
        return papers.wrongOf(row);
    }

    public boolean says(int why, int row) throws NoSuchElementException, IndexOutOfBoundsException {
        testWhy(why);
        testRow(row);
        return isSo(filmBy(why), row);
    }

    public long odds(int why) throws NoSuchElementException {
        testWhy(why);
        reckon(rowBits(), true);
        return worth[why];
    }

    public int share(int why) throws NoSuchElementException {
        testWhy(why);
        return perThousand(why, reckon(rowBits(), true));
    }

    public int best() {
        reckon(rowBits(), true);
        return greatestWorth();
    }

    public int moved(int why, int row) throws NoSuchElementException, IndexOutOfBoundsException {
        testWhy(why);
        testRow(row);
        int with = perThousand(why, reckon(rowBits(), true));
        int without = perThousand(why, reckon(rowBits() & ~(1 << row), true));
        return with - without;
    }

    public int inquiry(int rows, int why) throws NoSuchElementException, IllegalArgumentException {
        if (why != NONE) {
            testWhy(why);
        }
        testBits(rows, papers.rows);
        long sum = reckon(rows, false);
        return why == NONE ? greatestWorth() : perThousand(why, sum);
    }

    public int before(int rain, int charge) throws IllegalArgumentException {
        testNumber(RAIN, rain);
        testNumber(CHARGE, charge);
        int number = papers.befores;
        if (number >= MOST_BEFORE) {
            return NONE;
        }
        papers.beforeRains[number] = rain;
        papers.beforeCharges[number] = charge;
        papers.befores = number + 1;
        forgetBurnt();
        return papers.befores;
    }

    public int burnt(int why) throws NoSuchElementException {
        testWhy(why);
        return burntBy(why);
    }

    public int option(int which, int v, int cost) throws IllegalArgumentException {
        testNumber(which, v);
        testWithin(cost, 0, MOST_COST);
        int number = papers.options;
        if (number >= MOST_OPTIONS) {
            return NONE;
        }
        papers.optionNumbers[number] = which;
        papers.optionValues[number] = v;
        papers.optionCosts[number] = cost;
        papers.options = number + 1;
        return number;
    }

    public boolean safe(int why, int options, int seconds) throws NoSuchElementException, IllegalArgumentException {
        testWhy(why);
        testBits(options, papers.options);
        testWithin(seconds, 0, SECONDS - 1);
        return areSafe(why, why, options, seconds);
    }

    public int least(int why, int seconds) throws NoSuchElementException, IllegalArgumentException {
        testWhy(why);
        testWithin(seconds, 0, SECONDS - 1);
        return leastFor(why, why, seconds);
    }

    public int all(int seconds) throws IllegalArgumentException {
        testWithin(seconds, 0, SECONDS - 1);
        return leastFor(0, told - 1, seconds);
    }

    public int next(int second) throws IllegalArgumentException {
        testWithin(second, 0, SECONDS - 1);
        if (told == 0) {
            return NONE;
        }
        long sum = reckon(rowBits(), true);
        int found = NONE;
        long least = 0;
        for (int cell = 0; cell < CELLS; cell++) {
            long fire = worthWithFire(cell, second);
            long greater = Math.max(fire, sum - fire);
            if (found == NONE || greater < least) {
                found = cell;
                least = greater;
            }
        }
        return found;
    }

    public int parted(int why, int other) throws NoSuchElementException {
        testWhy(why);
        testWhy(other);
        Film one = filmBy(why);
        Film two = filmBy(other);
        for (int second = 0; second < SECONDS; second++) {
            if (!areAlike(one, two, second)) {
                return second;
            }
        }
        return NONE;
    }

    public int order(int why, int k) throws NoSuchElementException {
        testWhy(why);
        Film film = filmBy(why);
        for (int cell = 0; cell < CELLS; cell++) {
            if (film.began[cell] != NONE && film.firesAhead(cell) == k) {
                return cell;
            }
        }
        return NONE;
    }

    public int dry(int why) throws NoSuchElementException {
        testWhy(why);
        int tried = NONE;
        for (int leads = 0; leads <= MOST_NUMBERS[LEADS]; leads++) {
            flight.load(papers);
            flight.numbers[LEADS] = leads;
            flight.start(whys[why]);
            // LEADS matters only by the SECOND from which the ropes lead: a RUN with the same one is the same RUN.
            int from = flight.leadsFrom();
            if (from != tried) {
                tried = from;
                if (!flight.burns()) {
                    return leads;
                }
                if (flight.firstSecond < from) {
                    // It burnt while the ropes were dry, so it burns for all greater LEADS, too.
                    return NONE;
                }
            }
        }
        return NONE;
    }

    public int image() {
        if (imaged >= MOST_IMAGES) {
            return NONE;
        }
        images[imaged].copyFrom(papers);
        imaged++;
        return imaged;
    }

    public int restore() {
        if (imaged <= 0) {
            return NONE;
        }
        imaged--;
        papers.copyFrom(images[imaged]);
        forgetRuns();
        return imaged;
    }

    public int count(int what) {
        switch (what) {
            case 0:
                return told;
            case 1:
                return papers.rows;
            case 2:
                return papers.befores;
            case 3:
                return papers.options;
            case 4:
                return imaged;
            case 5:
                return taped;
            default:
                return what >= 10 && what < 10 + NUMBERS ? papers.numbers[what - 10] : NONE;
        }
    }

    private void testWhy(int why) {
        if (why < 0 || why >= told) {
            throw new NoSuchElementException("no such WHY");
        }
    }

    private void testRow(int row) {
        if (row < 0 || row >= papers.rows) {
            throw new IndexOutOfBoundsException("no such ROW");
        }
    }

    private static void testCell(int cell) {
        if (cell < 0 || cell >= CELLS) {
            throw new IndexOutOfBoundsException("no such CELL");
        }
    }

    private static void testWithin(int v, int least, int most) {
        if (v < least || v > most) {
            throw new IllegalArgumentException("not within its bounds");
        }
    }

    private static void testNumber(int which, int v) {
        if (which < 0 || which >= NUMBERS || v < LEAST_NUMBERS[which] || v > MOST_NUMBERS[which]) {
            throw new IllegalArgumentException("no such number of the LANDING");
        }
    }

    private static void testRowValue(int kind, int v) {
        switch (kind) {
            case ROW_FIRE:
                testWithin(v, 0, 1);
                break;
            case ROW_BEGAN:
                testWithin(v, 0, CELLS - 1);
                break;
            case ROW_DOWN:
            case ROW_LASTED:
                testWithin(v, 0, SECONDS - 1);
                break;
            default:
                testWithin(v, -9999, 9999);
                break;
        }
    }

    private static void testBits(int bits, int many) {
        if ((bits & ~((1 << many) - 1)) != 0) {
            throw new IllegalArgumentException("bits of what is not there");
        }
    }

    /** What a RUN is by hangs on the LANDING and the GAS: no RUN is known any more. */
    private void forgetRuns() {
        for (int i = 0; i < MOST_WHYS; i++) {
            films[i].made = false;
        }
        forgetBurnt();
    }

    private void forgetBurnt() {
        Arrays.fill(knownBurnt, NONE);
    }

    private Film filmBy(int why) {
        Film film = films[why];
        if (!film.made) {
            flight.load(papers);
            flight.start(whys[why]);
            for (int second = 0; second < SECONDS; second++) {
                flight.pass(second);
                film.keep(flight, second);
            }
            film.end(flight);
        }
        return film;
    }

    private int burntBy(int why) {
        if (knownBurnt[why] == NONE) {
            int burnt = 0;
            for (int i = 0; i < papers.befores; i++) {
                flight.load(papers);
                flight.numbers[RAIN] = papers.beforeRains[i];
                flight.numbers[CHARGE] = papers.beforeCharges[i];
                flight.start(whys[why]);
                if (flight.burns()) {
                    burnt++;
                }
            }
            knownBurnt[why] = burnt;
        }
        return knownBurnt[why];
    }

    private boolean isSo(Film film, int row) {
        int second = papers.rowSeconds[row];
        int v = papers.rowValues[row];
        switch (papers.rowKinds[row]) {
            case ROW_FIRE:
                return film.hasFireAt(papers.rowCells[row], second) == (v == 1);
            case ROW_BEGAN:
                return film.firstCell == v;
            case ROW_DOWN:
                return isNear(film.down, v);
            case ROW_HEAVY:
                return film.heavyAt(second) >= v;
            case ROW_LASTED:
                return isNear(film.lasted, v);
            default:
                return film.gapAt(second) >= v;
        }
    }

    private static boolean isNear(int seconds, int v) {
        return seconds != NONE && seconds >= v - 1 && seconds <= v + 1;
    }

    private int rowBits() {
        return (1 << papers.rows) - 1;
    }

    /** Works the ODDS of each WHY by some ROWS, with the LANDINGS before or without them: their sum. */
    private long reckon(int bits, boolean withBefore) {
        long sum = 0;
        for (int why = 0; why < told; why++) {
            Film film = filmBy(why);
            long odds = papers.weights[why];
            for (int row = 0; row < papers.rows; row++) {
                if ((bits >> row & 1) == 1) {
                    int wrong = papers.wrongOf(row);
                    odds *= isSo(film, row) ? 16 - wrong : wrong;
                }
            }
            if (withBefore) {
                odds >>= burntBy(why);
            }
            worth[why] = odds;
            sum += odds;
        }
        return sum;
    }

    private int perThousand(int why, long sum) {
        return sum == 0 ? 0 : (int) (1000 * worth[why] / sum);
    }

    private int greatestWorth() {
        int found = NONE;
        for (int why = 0; why < told; why++) {
            if (found == NONE || worth[why] > worth[found]) {
                found = why;
            }
        }
        return found;
    }

    private long worthWithFire(int cell, int second) {
        long fire = 0;
        for (int why = 0; why < told; why++) {
            if (films[why].hasFireAt(cell, second)) {
                fire += worth[why];
            }
        }
        return fire;
    }

    private int leastFor(int first, int last, int seconds) {
        int found = NONE;
        int least = 0;
        for (int bits = 0; bits < 1 << papers.options; bits++) {
            int cost = papers.costOf(bits);
            if ((found == NONE || cost < least) && areSafe(first, last, bits, seconds)) {
                found = bits;
                least = cost;
            }
        }
        return found;
    }

    private boolean areSafe(int first, int last, int bits, int seconds) {
        for (int why = first; why <= last; why++) {
            flight.load(papers);
            papers.applyOptions(bits, flight.numbers);
            flight.start(whys[why]);
            int lasted = flight.lasts();
            if (lasted != NONE && lasted < seconds) {
                return false;
            }
        }
        return true;
    }

    private static boolean areAlike(Film one, Film two, int second) {
        if (one.height[second] != two.height[second]) {
            return false;
        }
        for (int cell = 0; cell < CELLS; cell++) {
            int place = second * CELLS + cell;
            if (one.gas[place] != two.gas[place] || one.mixed[place] != two.mixed[place]
                    || one.hasFireAt(cell, second) != two.hasFireAt(cell, second)) {
                return false;
            }
        }
        return true;
    }

    /** All that an IMAGE holds. */
    private static final class Papers {
        final int[] numbers = new int[NUMBERS];
        final int[] gas = new int[CELLS];
        // A WHY that is not told yet has its first WEIGHT here: so an older IMAGE brings it back for one told since.
        final int[] weights = new int[MOST_WHYS];
        int rows = 0;
        final int[] rowKinds = new int[MOST_ROWS];
        final int[] rowSeconds = new int[MOST_ROWS];
        final int[] rowCells = new int[MOST_ROWS];
        final int[] rowValues = new int[MOST_ROWS];
        final int[] rowWrongs = new int[MOST_ROWS];
        final int[] rowYears = new int[MOST_ROWS];
        int befores = 0;
        final int[] beforeRains = new int[MOST_BEFORE];
        final int[] beforeCharges = new int[MOST_BEFORE];
        int options = 0;
        final int[] optionNumbers = new int[MOST_OPTIONS];
        final int[] optionValues = new int[MOST_OPTIONS];
        final int[] optionCosts = new int[MOST_OPTIONS];

        Papers() {
            System.arraycopy(FIRST_NUMBERS, 0, numbers, 0, NUMBERS);
            Arrays.fill(gas, FIRST_GAS);
            Arrays.fill(weights, FIRST_WEIGHT);
        }

        void copyFrom(Papers other) {
            System.arraycopy(other.numbers, 0, numbers, 0, NUMBERS);
            System.arraycopy(other.gas, 0, gas, 0, CELLS);
            System.arraycopy(other.weights, 0, weights, 0, MOST_WHYS);
            rows = other.rows;
            System.arraycopy(other.rowKinds, 0, rowKinds, 0, MOST_ROWS);
            System.arraycopy(other.rowSeconds, 0, rowSeconds, 0, MOST_ROWS);
            System.arraycopy(other.rowCells, 0, rowCells, 0, MOST_ROWS);
            System.arraycopy(other.rowValues, 0, rowValues, 0, MOST_ROWS);
            System.arraycopy(other.rowWrongs, 0, rowWrongs, 0, MOST_ROWS);
            System.arraycopy(other.rowYears, 0, rowYears, 0, MOST_ROWS);
            befores = other.befores;
            System.arraycopy(other.beforeRains, 0, beforeRains, 0, MOST_BEFORE);
            System.arraycopy(other.beforeCharges, 0, beforeCharges, 0, MOST_BEFORE);
            options = other.options;
            System.arraycopy(other.optionNumbers, 0, optionNumbers, 0, MOST_OPTIONS);
            System.arraycopy(other.optionValues, 0, optionValues, 0, MOST_OPTIONS);
            System.arraycopy(other.optionCosts, 0, optionCosts, 0, MOST_OPTIONS);
        }

        int wrongOf(int row) {
            return Math.min(MOST_WRONG, rowWrongs[row] + rowYears[row] / 10);
        }

        int costOf(int bits) {
            int cost = 0;
            for (int i = 0; i < options; i++) {
                if ((bits >> i & 1) == 1) {
                    cost += optionCosts[i];
                }
            }
            return cost;
        }

        void applyOptions(int bits, int[] changed) {
            for (int i = 0; i < options; i++) {
                int which = optionNumbers[i];
                if ((bits >> i & 1) == 1 && which >= 0 && which < changed.length) {
                    changed[which] = optionValues[i];
                }
            }
        }
    }

    /** The CLAUSES of a text; the condition of a spark is code for a stack, each sign behind what it joins. */
    private static final class Why {
        int clauses = 0;
        final int[] kinds = new int[MOST_CLAUSES];
        // The CELL of a leak or spark; of a set the LANDING's number.
        final int[] targets = new int[MOST_CLAUSES];
        final int[] amounts = new int[MOST_CLAUSES];
        final int[] froms = new int[MOST_CLAUSES];
        final int[] codeStarts = new int[MOST_CLAUSES];
        final int[] codeEnds = new int[MOST_CLAUSES];
        final int[] code = new int[MOST_BYTES];
        int coded = 0;

        void copyFrom(Why other) {
            clauses = other.clauses;
            System.arraycopy(other.kinds, 0, kinds, 0, MOST_CLAUSES);
            System.arraycopy(other.targets, 0, targets, 0, MOST_CLAUSES);
            System.arraycopy(other.amounts, 0, amounts, 0, MOST_CLAUSES);
            System.arraycopy(other.froms, 0, froms, 0, MOST_CLAUSES);
            System.arraycopy(other.codeStarts, 0, codeStarts, 0, MOST_CLAUSES);
            System.arraycopy(other.codeEnds, 0, codeEnds, 0, MOST_CLAUSES);
            System.arraycopy(other.code, 0, code, 0, MOST_BYTES);
            coded = other.coded;
        }
    }

    /** Parts a text into words, numbers and signs, and reads the CLAUSES of a WHY from these. */
    private static final class Reader {
        final Why draft = new Why();
        int faultPlace = NONE;
        private int fault = FAULT_NONE;
        // One more than the bytes, for the end, which is a part of its own: so there is always one to look at.
        private final int[] kinds = new int[MOST_BYTES + 1];
        private final int[] places = new int[MOST_BYTES + 1];
        private final int[] values = new int[MOST_BYTES + 1];
        private int parts = 0;
        private int at = 0;

        /** The FAULT of a text; without one the draft is its WHY. */
        int read(byte[] text, int length) {
            fault = FAULT_NONE;
            faultPlace = NONE;
            draft.clauses = 0;
            draft.coded = 0;
            scan(text, Math.min(length, Math.min(text.length, MOST_BYTES)));
            at = 0;
            boolean fine = true;
            for (int i = 0; i <= MOST_CLAUSES && fine && kinds[at] != PART_END; i++) {
                fine = readClause(i);
            }
            return fault;
        }

        private void scan(byte[] text, int length) {
            parts = 0;
            int place = 0;
            for (int i = 0; i < MOST_BYTES && place < length; i++) {
                int sign = text[place] & 255;
                if (sign == ' ') {
                    place++;
                } else {
                    places[parts] = place;
                    if (isDigit(sign)) {
                        place = scanNumber(text, place, length);
                    } else if (isLetter(sign)) {
                        place = scanWord(text, place, length);
                    } else {
                        kinds[parts] = sign;
                        place++;
                    }
                    parts++;
                }
            }
            kinds[parts] = PART_END;
            places[parts] = length;
        }

        private int scanNumber(byte[] text, int start, int length) {
            int value = 0;
            int end = start;
            for (; end < length && isDigit(text[end]); end++) {
                // Beyond five digits it is too great for every bound: it need not grow on, and can't wrap.
                if (value <= 9999) {
                    value = value * 10 + text[end] - '0';
                }
            }
            kinds[parts] = PART_NUMBER;
            values[parts] = value;
            return end;
        }

        private int scanWord(byte[] text, int start, int length) {
            int end = start;
            while (end < length && isLetter(text[end])) {
                end++;
            }
            int kind = clauseWord(text, start, end);
            if (kind == PART_STRANGE_WORD) {
                kind = conditionWord(text, start, end);
            }
            kinds[parts] = kind;
            return end;
        }

        private static boolean isDigit(int sign) {
            return sign >= '0' && sign <= '9';
        }

        private static boolean isLetter(int sign) {
            return sign >= 'a' && sign <= 'z';
        }

        private static int clauseWord(byte[] text, int start, int end) {
            if (isWord(text, start, end, "leak")) {
                return PART_LEAK;
            }
            if (isWord(text, start, end, "spark")) {
                return PART_SPARK;
            }
            if (isWord(text, start, end, "set")) {
                return PART_SET;
            }
            if (isWord(text, start, end, "from")) {
                return PART_FROM;
            }
            return isWord(text, start, end, "if") ? PART_IF : PART_STRANGE_WORD;
        }

        private static int conditionWord(byte[] text, int start, int end) {
            if (isWord(text, start, end, "or")) {
                return CODE_OR;
            }
            if (isWord(text, start, end, "and")) {
                return CODE_AND;
            }
            if (isWord(text, start, end, "not")) {
                return CODE_NOT;
            }
            if (isWord(text, start, end, "second")) {
                return CODE_SECOND;
            }
            if (isWord(text, start, end, "gap")) {
                return CODE_GAP;
            }
            if (isWord(text, start, end, "wet")) {
                return CODE_WET;
            }
            if (isWord(text, start, end, "height")) {
                return CODE_HEIGHT;
            }
            if (isWord(text, start, end, "mixed")) {
                return CODE_MIXED;
            }
            if (isWord(text, start, end, "gas")) {
                return CODE_GAS;
            }
            return isWord(text, start, end, "fire") ? CODE_FIRE : PART_STRANGE_WORD;
        }

        private static boolean isWord(byte[] text, int start, int end, String word) {
            if (end - start != word.length()) {
                return false;
            }
            for (int i = start; i < end; i++) {
                if (text[i] != word.charAt(i - start)) {
                    return false;
                }
            }
            return true;
        }

        private boolean readClause(int index) {
            int kind = kinds[at];
            if (kind != PART_LEAK && kind != PART_SPARK && kind != PART_SET) {
                return fail(FAULT_PLACE);
            }
            if (index >= MOST_CLAUSES) {
                return fail(FAULT_LIMIT);
            }
            at++;
            draft.kinds[index] = kind;
            draft.clauses = index + 1;
            boolean fine = kind == PART_LEAK ? readLeak(index) : kind == PART_SPARK ? readSpark(index) : readSet(index);
            return fine && expect(';');
        }

        private boolean readLeak(int index) {
            int cell = number(0, CELLS - 1);
            int amount = cell == NONE ? NONE : number(0, 99);
            if (amount == NONE || !expect(PART_FROM)) {
                return false;
            }
            int from = number(0, SECONDS - 1);
            draft.targets[index] = cell;
            draft.amounts[index] = amount;
            draft.froms[index] = from;
            return from != NONE;
        }

        private boolean readSpark(int index) {
            int cell = number(0, CELLS - 1);
            if (cell == NONE || !expect(PART_IF)) {
                return false;
            }
            draft.targets[index] = cell;
            draft.codeStarts[index] = draft.coded;
            boolean fine = readCondition(0);
            draft.codeEnds[index] = draft.coded;
            return fine;
        }

        private boolean readSet(int index) {
            int which = number(0, NUMBERS - 1);
            if (which == NONE) {
                return false;
            }
            int amount = number(LEAST_NUMBERS[which], MOST_NUMBERS[which]);
            draft.targets[index] = which;
            draft.amounts[index] = amount;
            return amount != NONE;
        }

        /** C: open tells how many of ( [ and not are open ahead of it. */
        private boolean readCondition(int open) {
            boolean fine = readAnds(open);
            for (int i = 0; i < MOST_BYTES && fine && take(CODE_OR); i++) {
                fine = readAnds(open) && write(CODE_OR);
            }
            return fine;
        }

        private boolean readAnds(int open) {
            boolean fine = readBasic(open);
            for (int i = 0; i < MOST_BYTES && fine && take(CODE_AND); i++) {
                fine = readBasic(open) && write(CODE_AND);
            }
            return fine;
        }

        private boolean readBasic(int open) {
            boolean not = kinds[at] == CODE_NOT;
            if (not || kinds[at] == '[') {
                if (open >= MOST_OPEN) {
                    return fail(FAULT_LIMIT);
                }
                at++;
                return not ? readBasic(open + 1) && write(CODE_NOT) : readCondition(open + 1) && expect(']');
            }
            if (!readSum(open)) {
                return false;
            }
            int code = kinds[at] == '<' ? CODE_LESS : kinds[at] == '>' ? CODE_MORE : CODE_SAME;
            if (code == CODE_SAME && kinds[at] != '=') {
                return fail(FAULT_PLACE);
            }
            at++;
            return readSum(open) && write(code);
        }

        private boolean readSum(int open) {
            boolean fine = readProduct(open);
            for (int i = 0; i < MOST_BYTES && fine && (kinds[at] == '+' || kinds[at] == '-'); i++) {
                int code = kinds[at] == '+' ? CODE_PLUS : CODE_MINUS;
                at++;
                fine = readProduct(open) && write(code);
            }
            return fine;
        }

        private boolean readProduct(int open) {
            boolean fine = readUnit(open);
            for (int i = 0; i < MOST_BYTES && fine && take('*'); i++) {
                fine = readUnit(open) && write(CODE_TIMES);
            }
            return fine;
        }

        private boolean readUnit(int open) {
            int kind = kinds[at];
            if (kind == PART_NUMBER) {
                int value = number(0, 9999);
                return value != NONE && write(value);
            }
            if (kind <= CODE_SECOND && kind >= CODE_FIRE) {
                at++;
                return write(kind);
            }
            if (kind != '(') {
                return fail(FAULT_PLACE);
            }
            if (open >= MOST_OPEN) {
                return fail(FAULT_LIMIT);
            }
            at++;
            return readSum(open + 1) && expect(')');
        }

        private int number(int least, int most) {
            if (kinds[at] != PART_NUMBER) {
                fail(FAULT_PLACE);
                return NONE;
            }
            int value = values[at];
            if (value < least || value > most) {
                fail(FAULT_NUMBER);
                return NONE;
            }
            at++;
            return value;
        }

        private boolean expect(int kind) {
            return take(kind) || fail(FAULT_PLACE);
        }

        /** The end is never taken, so that at stays on a part. */
        private boolean take(int kind) {
            if (kinds[at] != kind || at >= parts) {
                return false;
            }
            at++;
            return true;
        }

        private boolean fail(int kind) {
            fault = kind;
            faultPlace = places[at];
            return false;
        }

        private boolean write(int code) {
            if (draft.coded >= MOST_BYTES) {
                return false;
            }
            draft.code[draft.coded] = code;
            draft.coded++;
            return true;
        }
    }

    /** A RUN as it goes: it stands as the latest SECOND that passed left it. */
    private static final class Flight {
        // Six open brackets hold two values each, and a comparison four more at the most.
        private static final int STACK = 32;

        final int[] numbers = new int[NUMBERS];
        final int[] gas = new int[CELLS];
        final int[] mixed = new int[CELLS];
        final int[] began = new int[CELLS];
        private final int[] stack = new int[STACK];
        private Why why = new Why();
        int wet = 0;
        int skin = 0;
        int frame = 0;
        int height = 0;
        int firstSecond = NONE;
        int firstCell = NONE;
        int down = NONE;

        /** What is changed in the numbers behind this, ahead of the start, is so unless the WHY sets it. */
        void load(Papers papers) {
            System.arraycopy(papers.numbers, 0, numbers, 0, NUMBERS);
            System.arraycopy(papers.gas, 0, gas, 0, CELLS);
        }

        void start(Why by) {
            why = by;
            for (int i = 0; i < why.clauses; i++) {
                if (why.kinds[i] == PART_SET) {
                    numbers[why.targets[i]] = why.amounts[i];
                }
            }
            wet = 0;
            skin = numbers[CHARGE];
            frame = numbers[CHARGE];
            height = numbers[HEIGHT];
            Arrays.fill(mixed, 0);
            Arrays.fill(began, NONE);
            firstSecond = NONE;
            firstCell = NONE;
            down = NONE;
        }

        /** The SECOND from which the ropes lead (wet never falls, so they lead on); SECONDS, if they never do. */
        int leadsFrom() {
            if (numbers[LEADS] <= numbers[RAIN]) {
                return 0;
            }
            return numbers[RAIN] <= 0 ? SECONDS : Math.min(SECONDS, (numbers[LEADS] - 1) / numbers[RAIN]);
        }

        boolean burns() {
            for (int second = 0; second < SECONDS && firstSecond == NONE; second++) {
                pass(second);
            }
            return firstSecond != NONE;
        }

        /** LASTED: nothing behind DOWN can change it. */
        int lasts() {
            for (int second = 0; second < SECONDS && down == NONE; second++) {
                pass(second);
            }
            return lastedSoFar();
        }

        int lastedSoFar() {
            return firstSecond == NONE || down == NONE || down < firstSecond ? NONE : down - firstSecond;
        }

        void pass(int second) {
            wet += numbers[RAIN];
            if (wet >= numbers[LEADS]) {
                frame = Math.max(0, frame - numbers[FRAME]);
                skin = Math.max(0, skin - numbers[SKIN]);
            }
            leak(second);
            spark(second);
            if (firstSecond != NONE) {
                spread(second);
                burn();
            }
            sink(second);
        }

        private void leak(int second) {
            for (int i = 0; i < why.clauses; i++) {
                if (why.kinds[i] == PART_LEAK && second >= why.froms[i]) {
                    int cell = why.targets[i];
                    int much = Math.min(why.amounts[i], gas[cell]);
                    gas[cell] -= much;
                    mixed[cell] += much;
                }
            }
        }

        private void spark(int second) {
            for (int i = 0; i < why.clauses; i++) {
                int cell = why.targets[i];
                if (why.kinds[i] == PART_SPARK && began[cell] == NONE && mixed[cell] > 0 && holds(i, second)) {
                    began[cell] = second;
                    if (firstSecond == NONE || firstSecond == second && cell < firstCell) {
                        firstSecond = second;
                        firstCell = cell;
                    }
                }
            }
        }

        private void spread(int second) {
            for (int cell = 0; cell < CELLS; cell++) {
                if (began[cell] == NONE && (spreads(cell - 1, second) || spreads(cell + 1, second))) {
                    began[cell] = second;
                }
            }
        }

        /** SPREAD is 1 at least: a CELL that has its fire of this SECOND does not hand it on in it. */
        private boolean spreads(int cell, int second) {
            return cell >= 0 && cell < CELLS && began[cell] != NONE && second - began[cell] >= numbers[SPREAD];
        }

        private void burn() {
            for (int cell = 0; cell < CELLS; cell++) {
                if (began[cell] != NONE) {
                    gas[cell] = Math.max(0, gas[cell] - numbers[BURN]);
                    mixed[cell] = 0;
                }
            }
        }

        private void sink(int second) {
            int sum = 0;
            for (int cell = 0; cell < CELLS; cell++) {
                sum += gas[cell];
            }
            if (sum < numbers[LIFT]) {
                height = Math.max(0, height - numbers[SINK]);
                if (height == 0 && down == NONE) {
                    down = second;
                }
            }
        }

        private boolean holds(int clause, int second) {
            int top = 0;
            for (int i = why.codeStarts[clause]; i < why.codeEnds[clause]; i++) {
                int code = why.code[i];
                if (code >= CODE_FIRE) {
                    if (top < STACK) {
                        stack[top] = code >= 0 ? code : seen(code, why.targets[clause], second);
                        top++;
                    }
                } else if (code == CODE_NOT) {
                    if (top >= 1) {
                        stack[top - 1] = 1 - stack[top - 1];
                    }
                } else if (top >= 2) {
                    top--;
                    stack[top - 1] = joined(code, stack[top - 1], stack[top]);
                }
            }
            return top > 0 && stack[top - 1] == 1;
        }

        private int seen(int code, int cell, int second) {
            switch (code) {
                case CODE_SECOND:
                    return second;
                case CODE_GAP:
                    return skin - frame;
                case CODE_WET:
                    return wet;
                case CODE_HEIGHT:
                    return height;
                case CODE_MIXED:
                    return mixed[cell];
                case CODE_GAS:
                    return gas[cell];
                default:
                    return began[cell] != NONE ? 1 : 0;
            }
        }

        private static int joined(int code, int left, int right) {
            switch (code) {
                case CODE_AND:
                    return left & right;
                case CODE_OR:
                    return left | right;
                case CODE_LESS:
                    return left < right ? 1 : 0;
                case CODE_MORE:
                    return left > right ? 1 : 0;
                case CODE_SAME:
                    return left == right ? 1 : 0;
                case CODE_PLUS:
                    return left + right;
                case CODE_MINUS:
                    return left - right;
                default:
                    return left * right;
            }
        }
    }

    /** A whole RUN by the LANDING as it is told, kept till that changes: most questions ask for the same one again. */
    private static final class Film {
        boolean made = false;
        final int[] wet = new int[SECONDS];
        final int[] skin = new int[SECONDS];
        final int[] frame = new int[SECONDS];
        final int[] height = new int[SECONDS];
        final int[] gas = new int[SECONDS * CELLS];
        final int[] mixed = new int[SECONDS * CELLS];
        final int[] began = new int[CELLS];
        int firstSecond = NONE;
        int firstCell = NONE;
        int down = NONE;
        int lasted = NONE;

        void keep(Flight flight, int second) {
            wet[second] = flight.wet;
            skin[second] = flight.skin;
            frame[second] = flight.frame;
            height[second] = flight.height;
            System.arraycopy(flight.gas, 0, gas, second * CELLS, CELLS);
            System.arraycopy(flight.mixed, 0, mixed, second * CELLS, CELLS);
        }

        void end(Flight flight) {
            System.arraycopy(flight.began, 0, began, 0, CELLS);
            firstSecond = flight.firstSecond;
            firstCell = flight.firstCell;
            down = flight.down;
            lasted = flight.lastedSoFar();
            made = true;
        }

        int gapAt(int second) {
            return skin[second] - frame[second];
        }

        int allGasAt(int second) {
            int sum = 0;
            for (int cell = 0; cell < CELLS; cell++) {
                sum += gas[second * CELLS + cell];
            }
            return sum;
        }

        int heavyAt(int second) {
            int heavy = 0;
            for (int cell = 0; cell < CELLS; cell++) {
                int much = gas[second * CELLS + cell];
                heavy += cell < CELLS / 2 ? much : -much;
            }
            return heavy;
        }

        int firesAt(int second) {
            int fires = 0;
            for (int cell = 0; cell < CELLS; cell++) {
                if (hasFireAt(cell, second)) {
                    fires++;
                }
            }
            return fires;
        }

        boolean hasFireAt(int cell, int second) {
            return began[cell] != NONE && began[cell] <= second;
        }

        /** How many CELLS had their fire ahead of this one: earlier, or in the same SECOND nearer to the bow. */
        int firesAhead(int cell) {
            int ahead = 0;
            for (int other = 0; other < CELLS; other++) {
                boolean earlier = began[other] < began[cell] || began[other] == began[cell] && other < cell;
                if (began[other] != NONE && earlier) {
                    ahead++;
                }
            }
            return ahead;
        }
    }
}
