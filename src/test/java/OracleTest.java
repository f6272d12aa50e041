import java.util.ArrayList;
import java.util.Arrays;
import java.util.Comparator;
import java.util.List;
import java.util.NoSuchElementException;
import java.util.Random;
import java.util.concurrent.Callable;
import java.util.function.IntBinaryOperator;
import java.util.function.ToIntFunction;

/**
 * Random runs of calls on the class and on a slow model of the document: the model keeps no RUN and works each answer
 * anew, so that what the class keeps and forgets is tested, too.
 */
public final class OracleTest {
    private static final int RUNS = 400;
    private static final int CALLS = 300;

    private static int compared = 0;
    private static int failed = 0;

    public static void main(String[] args) {
        for (int seed = 0; seed < RUNS && failed < 10; seed++) {
            randomRun(seed);
        }
        texts();
        System.out.println("OracleTest: " + (compared - failed) + " passed, " + failed + " failed");
        if (failed != 0) {
            System.exit(1);
        }
    }

    private static String answer(Callable<Object> call) {
        try {
            Object got = call.call();
            return got instanceof Boolean ? ((Boolean) got ? "1" : "0") : String.valueOf(got);
        } catch (Exception e) {
            return "throws." + e.getClass().getSimpleName();
        }
    }

    private static String compare(String told, Callable<Object> one, Callable<Object> two) {
        String got = answer(one);
        String want = answer(two);
        compared++;
        if (!got.equals(want)) {
            failed++;
            System.out.println(told + " answered " + got + ", the model " + want);
        }
        return want;
    }

    private static void tell(String told, MastSparks x, Model m, String text) {
        int[] n = new int[5];
        for (int from = 0; from < text.length(); from += 20) {
            Arrays.fill(n, 0);
            for (int i = 0; i < 20; i++) {
                n[i / 4] = n[i / 4] << 8 | (from + i < text.length() ? text.charAt(from + i) & 255 : 0);
            }
            compare(told + "feed", () -> x.feed(n[0], n[1], n[2], n[3], n[4]), () -> m.feed(n));
        }
        compare(told + "why <" + text + ">", () -> x.why(text.length()), () -> m.why(text.length()));
        compare(told + "fault <" + text + ">", x::fault, m::fault);
    }

    /** Many texts, a few of them without a FAULT, each on an object of its own. */
    private static void texts() {
        Random r = new Random(99);
        for (int i = 0; i < 20000 && failed < 10; i++) {
            String text = Texts.clauses(r, 1 + r.nextInt(r.nextInt(8) == 0 ? 16 : 3));
            for (int k = r.nextInt(3); k > 0; k--) {
                text = Texts.harmed(r, text);
            }
            text = text.length() > 300 ? text.substring(0, 300) : text;
            MastSparks x = new MastSparks();
            Model m = new Model();
            tell("texts: ", x, m, text);
            if (m.whys.size() == 1) {
                compare("began of <" + text + ">", () -> x.run(0, 0), () -> m.run(0, 0));
                compare("gas of <" + text + ">", () -> x.state(0, 50, 5), () -> m.state(0, 50, 5));
            }
        }
    }

    private static void randomRun(int seed) {
        Random r = new Random(seed);
        MastSparks x = new MastSparks();
        Model m = new Model();
        String told = "run " + seed + ": ";
        int first = r.nextInt(6);
        for (int i = 0; i < first; i++) {
            tell(told, x, m, Texts.clauses(r, 1 + r.nextInt(6)));
        }
        for (int i = 0; i < CALLS && failed < 10; i++) {
            randomCall(told, r, x, m);
        }
    }

    /** Mostly within 0 to most, now and then beside. */
    private static int about(Random r, int most) {
        int k = r.nextInt(24);
        return k == 0 ? -1 : k == 1 ? most + 1 : k == 2 ? r.nextInt() : r.nextInt(most + 1);
    }

    /** The least and the most of a number come often: much is decided at these. */
    private static int aboutNumber(Random r, int which) {
        if (which >= 0 && which <= 9 && r.nextInt(5) == 0) {
            return r.nextBoolean() ? 0 : Model.HIGH[which];
        }
        return which < 0 || which > 9 ? r.nextInt(50) : r.nextInt(3) == 0 ? about(r, Model.HIGH[which])
                : about(r, Math.min(Model.HIGH[which], 2 + 2 * Model.FIRST[which]));
    }

    private static void randomCall(String told, Random r, MastSparks x, Model m) {
        int why = about(r, Math.max(0, m.whys.size() - 1));
        int second = about(r, 99);
        int cell = about(r, 7);
        int row = about(r, Math.max(0, m.now.rows.size() - 1));
        int call = r.nextInt(40);
        String s = told + "call " + call + " (" + why + ", " + second + ", " + cell + ", " + row + ") ";
        switch (call) {
            case 0: {
                String text = Texts.clauses(r, r.nextInt(7));
                tell(told, x, m, r.nextInt(3) == 0 ? Texts.harmed(r, text) : text);
                break;
            }
            case 1: {
                int n = about(r, 40);
                int[] five = {r.nextInt(), r.nextInt(), r.nextInt(), r.nextInt(), r.nextInt()};
                compare(s + "feed", () -> x.feed(five[0], five[1], five[2], five[3], five[4]), () -> m.feed(five));
                if (r.nextBoolean()) {
                    compare(s + "why " + n, () -> x.why(n), () -> m.why(n));
                }
                compare(s + "fault", x::fault, m::fault);
                break;
            }
            case 2: {
                int v = about(r, 99);
                compare(s + "weigh " + v, () -> x.weigh(why, v), () -> m.weigh(why, v));
                break;
            }
            case 3: {
                int which = about(r, 9);
                int v = aboutNumber(r, which);
                compare(s + "set " + which + " " + v, () -> x.set(which, v), () -> m.set(which, v));
                break;
            }
            case 4: {
                int v = about(r, r.nextInt(4) == 0 ? 999 : 150);
                compare(s + "fill " + v, () -> x.fill(cell, v), () -> m.fill(cell, v));
                break;
            }
            case 5, 6, 7, 8: {
                int what = about(r, 7);
                compare(s + "state " + what, () -> x.state(why, second, what), () -> m.state(why, second, what));
                break;
            }
            case 9, 10, 11: {
                int what = about(r, 2);
                compare(s + "cell " + what, () -> x.cell(why, second, cell, what), () -> m.cell(why, second, cell, what));
                break;
            }
            case 12, 13: {
                int what = about(r, 3);
                compare(s + "run " + what, () -> x.run(why, what), () -> m.run(why, what));
                break;
            }
            case 14, 15: {
                randomRow(s, r, x, m, second, cell);
                break;
            }
            case 16: {
                int years = about(r, 99);
                compare(s + "asked " + years, () -> x.asked(row, years), () -> m.asked(row, years));
                break;
            }
            default:
                randomQuestion(s, r, x, m, call);
                break;
        }
    }

    private static void randomRow(String s, Random r, MastSparks x, Model m, int second, int cell) {
        int kind = about(r, 5);
        int w = about(r, 8);
        int[] near = {1, 7, 99, 0, 99, 0};
        int seen = m.whys.isEmpty() || kind < 0 || kind > 5 ? 0 : kind == 2 ? m.run(0, 2) : kind == 4 ? m.run(0, 3) : 0;
        int v = kind == 3 || kind == 5 ? r.nextInt(300) - 100
                : seen > 0 && r.nextInt(3) > 0 ? seen + r.nextInt(5) - 2 : about(r, kind < 0 || kind > 5 ? 9 : near[kind]);
        compare(s + "row " + kind + " " + v + " " + w, () -> x.row(kind, second, cell, v, w),
                () -> m.row(kind, second, cell, v, w));
    }

    private static void randomQuestion(String s, Random r, MastSparks x, Model m, int call) {
        int why = about(r, Math.max(0, m.whys.size() - 1));
        int other = about(r, Math.max(0, m.whys.size() - 1));
        int row = about(r, Math.max(0, m.now.rows.size() - 1));
        int second = r.nextInt(3) == 0 ? about(r, 99) : about(r, 20);
        String t = s + "why " + why + ", other " + other + ", row " + row + ", second " + second + " ";
        switch (call) {
            case 17, 18 -> compare(t + "says", () -> x.says(why, row), () -> m.says(why, row));
            case 19, 20 -> compare(t + "odds", () -> x.odds(why), () -> m.odds(why));
            case 21, 22 -> compare(t + "share", () -> x.share(why), () -> m.share(why));
            case 23 -> compare(t + "best", x::best, m::best);
            case 24 -> compare(t + "moved", () -> x.moved(why, row), () -> m.moved(why, row));
            case 25 -> {
                int bits = about(r, (1 << m.now.rows.size()) - 1);
                compare(t + "inquiry " + bits, () -> x.inquiry(bits, why), () -> m.inquiry(bits, why));
            }
            case 26 -> {
                int rain = aboutNumber(r, 0);
                int charge = aboutNumber(r, 2);
                compare(t + "before " + rain + " " + charge, () -> x.before(rain, charge), () -> m.before(rain, charge));
            }
            case 27 -> compare(t + "burnt", () -> x.burnt(why), () -> m.burnt(why));
            case 28 -> {
                int which = about(r, 9);
                int v = aboutNumber(r, which);
                int cost = about(r, r.nextBoolean() ? 3 : 999);
                compare(t + "option " + which + " " + v + " " + cost, () -> x.option(which, v, cost),
                        () -> m.option(which, v, cost));
            }
            case 29, 30 -> {
                int bits = about(r, (1 << m.now.options.size()) - 1);
                compare(t + "safe " + bits, () -> x.safe(why, bits, second), () -> m.safe(why, bits, second));
            }
            case 31 -> compare(t + "least", () -> x.least(why, second), () -> m.least(why, second));
            case 32 -> compare(t + "all", () -> x.all(second), () -> m.all(second));
            case 33 -> compare(t + "next", () -> x.next(second), () -> m.next(second));
            case 34 -> compare(t + "parted", () -> x.parted(why, other), () -> m.parted(why, other));
            case 35 -> {
                int k = about(r, 7);
                compare(t + "order " + k, () -> x.order(why, k), () -> m.order(why, k));
            }
            case 36 -> compare(t + "dry", () -> x.dry(why), () -> m.dry(why));
            case 37 -> compare(t + "image", x::image, m::image);
            case 38 -> compare(t + "restore", x::restore, m::restore);
            default -> {
                int what = about(r, 20);
                compare(t + "count " + what, () -> x.count(what), () -> m.count(what));
            }
        }
    }

    /** Random texts: whole ones, and ones with a byte or a word put in, taken out or changed. */
    private static final class Texts {
        private static final String[] WORDS = {"leak", "spark", "set", "from", "if", "or", "and", "not", "second", "gap",
            "wet", "height", "mixed", "gas", "fire", "[", "]", "(", ")", "<", ">", "=", "+", "-", "*", ";", " ", "7", "8",
            "99", "100", "9999", "10000", "x", "A", "\u0000", "\u00e9", "leaks", "10", "0"};

        static String clauses(Random r, int many) {
            StringBuilder s = new StringBuilder();
            int hot = r.nextInt(8);
            for (int i = 0; i < many; i++) {
                String clause = clause(r, r.nextInt(4) == 0 ? r.nextInt(8) : hot);
                if (s.length() + clause.length() <= 300) {
                    s.append(clause);
                }
            }
            return s.toString();
        }

        private static String clause(Random r, int cell) {
            switch (r.nextInt(5)) {
                case 0, 1:
                    return "leak " + cell + " " + r.nextInt(r.nextBoolean() ? 20 : 100) + " from " + r.nextInt(30) + ";";
                case 2:
                    int which = r.nextInt(10);
                    int most = r.nextBoolean() ? Model.HIGH[which] : Math.min(Model.HIGH[which], 2 * Model.FIRST[which]);
                    return "set " + which + " " + (Model.LOW[which] + r.nextInt(most - Model.LOW[which] + 1)) + ";";
                default:
                    return "spark " + cell + " if " + condition(r, 2) + ";";
            }
        }

        private static String condition(Random r, int depth) {
            int k = r.nextInt(depth > 0 ? 9 : 4);
            if (k == 4) {
                return condition(r, depth - 1) + " or " + condition(r, depth - 1);
            }
            if (k == 5) {
                return condition(r, depth - 1) + " and " + condition(r, depth - 1);
            }
            if (k == 6) {
                return "not " + condition(r, depth - 1);
            }
            if (k == 7) {
                return "[" + condition(r, depth - 1) + "]";
            }
            if (k < 3) {
                String[] common = {"gap>" + r.nextInt(60), "second>" + r.nextInt(40), "mixed>" + r.nextInt(60),
                    "wet>" + r.nextInt(60), "gas<" + r.nextInt(100), "height<" + r.nextInt(100), "fire=0"};
                return common[r.nextInt(common.length)];
            }
            return sum(r, 2) + "<>=".charAt(r.nextInt(3)) + sum(r, 2);
        }

        private static String sum(Random r, int depth) {
            int k = r.nextInt(depth > 0 ? 9 : 5);
            if (k < 3) {
                return WORDS[8 + r.nextInt(7)];
            }
            if (k < 5) {
                return String.valueOf(r.nextInt(r.nextInt(3) == 0 ? 10000 : 50));
            }
            if (k == 5) {
                return "(" + sum(r, depth - 1) + ")";
            }
            return sum(r, depth - 1) + (r.nextBoolean() ? "" : " ") + "+-*".charAt(r.nextInt(3)) + sum(r, depth - 1);
        }

        static String harmed(Random r, String text) {
            int at = r.nextInt(text.length() + 1);
            String word = WORDS[r.nextInt(WORDS.length)];
            switch (r.nextInt(5)) {
                case 0:
                    return text.substring(0, at);
                case 1:
                    return text.substring(0, at) + word + text.substring(at);
                case 2:
                    return text.substring(0, at) + word + text.substring(Math.min(text.length(), at + 1));
                case 3:
                    return text.substring(0, at) + text.substring(Math.min(text.length(), at + 1));
                default:
                    String many = (r.nextBoolean() ? "[" : r.nextBoolean() ? "(" : " not ").repeat(r.nextInt(8));
                    int behind = text.indexOf("if ");
                    int put = behind >= 0 ? behind + 3 : at;
                    return text.substring(0, put) + many + text.substring(put);
            }
        }
    }

    /** A FAULT on its way out of the model's reader. */
    private static final class Fault extends Exception {
        private static final long serialVersionUID = 1;
        final int kind;
        final int place;

        Fault(int kind, int place) {
            this.kind = kind;
            this.place = place;
        }
    }

    private static final class Clause {
        String kind;
        int cell;
        int n;
        int from;
        ToIntFunction<Moment> holds;
    }

    /** What a condition looks at. */
    private static final class Moment {
        int second;
        int wet;
        int skin;
        int frame;
        int height;
        int[] gas;
        int[] mixed = new int[8];
        int[] began = {-1, -1, -1, -1, -1, -1, -1, -1};
        int asks;

        Moment copy() {
            Moment m = new Moment();
            m.second = second;
            m.wet = wet;
            m.skin = skin;
            m.frame = frame;
            m.height = height;
            m.gas = gas.clone();
            m.mixed = mixed.clone();
            m.began = began.clone();
            return m;
        }

        int allGas() {
            return Arrays.stream(gas).sum();
        }

        int heavy() {
            return gas[0] + gas[1] + gas[2] + gas[3] - gas[4] - gas[5] - gas[6] - gas[7];
        }
    }

    /** Reads a text sign by sign, with closures for conditions: unlike the class's reader in all but the grammar. */
    private static final class Parser {
        private final String text;
        private int at = 0;
        private int open = 0;

        Parser(String text) {
            this.text = text;
        }

        private void blanks() {
            while (at < text.length() && text.charAt(at) == ' ') {
                at++;
            }
        }

        private String look(String set) {
            blanks();
            int end = at;
            while (end < text.length() && set.indexOf(text.charAt(end)) >= 0) {
                end++;
            }
            return text.substring(at, end);
        }

        private String lookWord() {
            return look("abcdefghijklmnopqrstuvwxyz");
        }

        private char lookSign() {
            blanks();
            return at < text.length() ? text.charAt(at) : '\uffff';
        }

        private boolean word(String w) {
            if (lookWord().equals(w)) {
                at += w.length();
                return true;
            }
            return false;
        }

        private void needWord(String w) throws Fault {
            if (!word(w)) {
                throw new Fault(1, at);
            }
        }

        private void needSign(char c) throws Fault {
            if (lookSign() != c) {
                throw new Fault(1, at);
            }
            at++;
        }

        private int number(int low, int high) throws Fault {
            String digits = look("0123456789");
            if (digits.isEmpty()) {
                throw new Fault(1, at);
            }
            java.math.BigInteger n = new java.math.BigInteger(digits);
            if (n.bitLength() > 30 || n.intValue() < low || n.intValue() > high) {
                throw new Fault(2, at);
            }
            at += digits.length();
            return n.intValue();
        }

        List<Clause> clauses() throws Fault {
            List<Clause> all = new ArrayList<>();
            while (true) {
                String w = lookWord();
                if (at == text.length()) {
                    return all;
                }
                if (!w.equals("leak") && !w.equals("spark") && !w.equals("set")) {
                    throw new Fault(1, at);
                }
                if (all.size() == 14) {
                    throw new Fault(3, at);
                }
                at += w.length();
                Clause c = new Clause();
                c.kind = w;
                if (w.equals("leak")) {
                    c.cell = number(0, 7);
                    c.n = number(0, 99);
                    needWord("from");
                    c.from = number(0, 99);
                } else if (w.equals("spark")) {
                    c.cell = number(0, 7);
                    needWord("if");
                    c.holds = ors();
                } else {
                    c.cell = number(0, 9);
                    c.n = number(Model.LOW[c.cell], Model.HIGH[c.cell]);
                }
                needSign(';');
                all.add(c);
            }
        }

        private static ToIntFunction<Moment> both(ToIntFunction<Moment> a, ToIntFunction<Moment> b, IntBinaryOperator by) {
            return m -> by.applyAsInt(a.applyAsInt(m), b.applyAsInt(m));
        }

        private ToIntFunction<Moment> ors() throws Fault {
            ToIntFunction<Moment> left = ands();
            while (word("or")) {
                left = both(left, ands(), (a, b) -> a | b);
            }
            return left;
        }

        private ToIntFunction<Moment> ands() throws Fault {
            ToIntFunction<Moment> left = basic();
            while (word("and")) {
                left = both(left, basic(), (a, b) -> a & b);
            }
            return left;
        }

        private void opened() throws Fault {
            if (open == 6) {
                throw new Fault(3, at);
            }
            open++;
        }

        private ToIntFunction<Moment> basic() throws Fault {
            if (lookWord().equals("not")) {
                opened();
                at += 3;
                ToIntFunction<Moment> b = basic();
                open--;
                return m -> 1 - b.applyAsInt(m);
            }
            if (lookSign() == '[') {
                opened();
                at++;
                ToIntFunction<Moment> c = ors();
                needSign(']');
                open--;
                return c;
            }
            ToIntFunction<Moment> left = sum();
            char sign = lookSign();
            if (sign != '<' && sign != '>' && sign != '=') {
                throw new Fault(1, at);
            }
            at++;
            ToIntFunction<Moment> right = sum();
            return both(left, right, (a, b) -> (sign == '<' ? a < b : sign == '>' ? a > b : a == b) ? 1 : 0);
        }

        private ToIntFunction<Moment> sum() throws Fault {
            ToIntFunction<Moment> left = product();
            while (lookSign() == '+' || lookSign() == '-') {
                boolean plus = lookSign() == '+';
                at++;
                left = both(left, product(), (a, b) -> plus ? a + b : a - b);
            }
            return left;
        }

        private ToIntFunction<Moment> product() throws Fault {
            ToIntFunction<Moment> left = unit();
            while (lookSign() == '*') {
                at++;
                left = both(left, unit(), (a, b) -> a * b);
            }
            return left;
        }

        private ToIntFunction<Moment> unit() throws Fault {
            if (lookSign() == '(') {
                opened();
                at++;
                ToIntFunction<Moment> e = sum();
                needSign(')');
                open--;
                return e;
            }
            if (Character.isDigit(lookSign())) {
                int n = number(0, 9999);
                return m -> n;
            }
            String w = lookWord();
            ToIntFunction<Moment> got = switch (w) {
                case "second" -> m -> m.second;
                case "gap" -> m -> m.skin - m.frame;
                case "wet" -> m -> m.wet;
                case "height" -> m -> m.height;
                case "mixed" -> m -> m.mixed[m.asks];
                case "gas" -> m -> m.gas[m.asks];
                case "fire" -> m -> m.began[m.asks] >= 0 ? 1 : 0;
                default -> throw new Fault(1, at);
            };
            at += w.length();
            return got;
        }
    }

    /** What an IMAGE holds, copied whole. */
    private static final class Now {
        int[] numbers = Model.FIRST.clone();
        int[] gas = {100, 100, 100, 100, 100, 100, 100, 100};
        List<int[]> rows = new ArrayList<>();
        List<int[]> before = new ArrayList<>();
        List<int[]> options = new ArrayList<>();
        List<Integer> weights = new ArrayList<>();

        Now copy() {
            Now n = new Now();
            n.numbers = numbers.clone();
            n.gas = gas.clone();
            rows.forEach(x -> n.rows.add(x.clone()));
            before.forEach(x -> n.before.add(x.clone()));
            options.forEach(x -> n.options.add(x.clone()));
            n.weights.addAll(weights);
            return n;
        }
    }

    /** All SECONDS of a RUN, and where it went DOWN. */
    private static final class Course {
        final List<Moment> moments = new ArrayList<>();
        int down = -1;

        int began() {
            return moments.get(99).began == null ? -1
                    : Arrays.stream(moments.get(99).began).filter(b -> b >= 0).min().orElse(-1);
        }

        int beganCell() {
            for (int c = 0; c < 8; c++) {
                if (began() >= 0 && moments.get(99).began[c] == began()) {
                    return c;
                }
            }
            return -1;
        }

        int lasted() {
            return began() < 0 || down < began() ? -1 : down - began();
        }

        boolean fire(int cell, int second) {
            return moments.get(second).began[cell] >= 0;
        }
    }

    private static final class Model {
        static final int[] LOW = {0, 0, 0, 0, 0, 1, 0, 0, 0, 0};
        static final int[] HIGH = {99, 999, 999, 99, 99, 20, 99, 9999, 99, 999};
        static final int[] FIRST = {2, 20, 200, 15, 3, 2, 20, 600, 6, 90};

        final List<List<Clause>> whys = new ArrayList<>();
        Now now = new Now();
        private final List<Now> images = new ArrayList<>();
        private StringBuilder tape = new StringBuilder();
        private int fault = -1;

        private static void need(boolean fine) {
            if (!fine) {
                throw new IllegalArgumentException();
            }
        }

        private static boolean in(int v, int low, int high) {
            return low <= v && v <= high;
        }

        private void needWhy(int why) {
            if (!in(why, 0, whys.size() - 1)) {
                throw new NoSuchElementException();
            }
        }

        private static void needIndex(int i, int size) {
            if (!in(i, 0, size - 1)) {
                throw new IndexOutOfBoundsException();
            }
        }

        private static void needNumber(int which, int v) {
            need(in(which, 0, 9) && in(v, LOW[which], HIGH[which]));
        }

        int feed(int[] five) {
            if (tape.length() + 20 > 300) {
                return -1;
            }
            for (int n : five) {
                for (int k = 3; k >= 0; k--) {
                    tape.append((char) (n >>> 8 * k & 255));
                }
            }
            return tape.length();
        }

        int why(int n) {
            need(in(n, 0, tape.length()));
            String text = tape.substring(0, n);
            tape = new StringBuilder();
            fault = -1;
            if (whys.size() == 6) {
                return -1;
            }
            try {
                List<Clause> clauses = new Parser(text).clauses();
                whys.add(clauses);
                now.weights.add(10);
                return whys.size() - 1;
            } catch (Fault f) {
                fault = f.place;
                return f.kind - 10;
            }
        }

        int fault() {
            return fault;
        }

        int weigh(int why, int v) {
            needWhy(why);
            need(in(v, 1, 99));
            return now.weights.set(why, v);
        }

        int set(int which, int v) {
            needNumber(which, v);
            int was = now.numbers[which];
            now.numbers[which] = v;
            return was;
        }

        int fill(int cell, int v) {
            needIndex(cell, 8);
            need(in(v, 0, 999));
            int was = now.gas[cell];
            now.gas[cell] = v;
            return was;
        }

        private Course course(int why) {
            return course(why, now.numbers.clone());
        }

        private Course course(int why, int[] p) {
            List<Clause> clauses = whys.get(why);
            for (Clause c : clauses) {
                if (c.kind.equals("set")) {
                    p[c.cell] = c.n;
                }
            }
            Course course = new Course();
            Moment m = new Moment();
            m.skin = p[2];
            m.frame = p[2];
            m.height = p[9];
            m.gas = now.gas.clone();
            for (int s = 0; s < 100; s++) {
                m.second = s;
                second(m, clauses, p);
                if (m.allGas() < p[7] && m.height == 0 && course.down < 0) {
                    course.down = s;
                }
                course.moments.add(m.copy());
            }
            return course;
        }

        private static void second(Moment m, List<Clause> clauses, int[] p) {
            m.wet += p[0];
            if (m.wet >= p[1]) {
                m.frame = m.frame > p[3] ? m.frame - p[3] : 0;
                m.skin = m.skin > p[4] ? m.skin - p[4] : 0;
            }
            for (Clause c : clauses) {
                for (int k = 0; c.kind.equals("leak") && m.second >= c.from && k < c.n && m.gas[c.cell] > 0; k++) {
                    m.gas[c.cell]--;
                    m.mixed[c.cell]++;
                }
            }
            for (Clause c : clauses) {
                m.asks = c.cell;
                if (c.kind.equals("spark") && c.holds.applyAsInt(m) == 1 && m.mixed[c.cell] > 0 && m.began[c.cell] < 0) {
                    m.began[c.cell] = m.second;
                }
            }
            int[] had = m.began.clone();
            for (int c = 0; c < 8; c++) {
                for (int d = -1; d <= 1; d += 2) {
                    boolean there = c + d >= 0 && c + d < 8 && had[c + d] >= 0;
                    if (had[c] < 0 && there && m.second >= had[c + d] + p[5]) {
                        m.began[c] = m.second;
                    }
                }
            }
            for (int c = 0; c < 8; c++) {
                if (m.began[c] >= 0) {
                    m.gas[c] = Math.max(0, m.gas[c] - p[6]);
                    m.mixed[c] = 0;
                }
            }
            if (m.allGas() < p[7]) {
                m.height = Math.max(0, m.height - p[8]);
            }
        }

        int state(int why, int second, int what) {
            needWhy(why);
            need(in(second, 0, 99) && in(what, 0, 7));
            Moment m = course(why).moments.get(second);
            int[] all = {m.wet, m.skin, m.frame, m.skin - m.frame, m.height, m.allGas(), m.heavy(),
                (int) Arrays.stream(m.began).filter(b -> b >= 0).count()};
            return all[what];
        }

        int cell(int why, int second, int cell, int what) {
            needWhy(why);
            needIndex(cell, 8);
            need(in(second, 0, 99) && in(what, 0, 2));
            Moment m = course(why).moments.get(second);
            return what == 0 ? m.gas[cell] : what == 1 ? m.mixed[cell] : m.began[cell];
        }

        int run(int why, int what) {
            needWhy(why);
            need(in(what, 0, 3));
            Course c = course(why);
            return what == 0 ? c.began() : what == 1 ? c.beganCell() : what == 2 ? c.down : c.lasted();
        }

        int row(int kind, int second, int cell, int v, int w) {
            need(in(kind, 0, 5) && in(second, 0, 99) && in(cell, 0, 7) && in(w, 0, 8));
            int[] low = {0, 0, 0, -9999, 0, -9999};
            int[] high = {1, 7, 99, 9999, 99, 9999};
            need(in(v, low[kind], high[kind]));
            if (now.rows.size() == 10) {
                return -1;
            }
            now.rows.add(new int[] {kind, second, cell, v, w, 0});
            return now.rows.size() - 1;
        }

        private static int wrong(int[] row) {
            return Math.min(8, row[4] + row[5] / 10);
        }

        int asked(int row, int years) {
            needIndex(row, now.rows.size());
            need(in(years, 0, 99));
            now.rows.get(row)[5] = years;
            return wrong(now.rows.get(row));
        }

        private static boolean so(Course c, int[] row) {
            int v = row[3];
            Moment m = c.moments.get(row[1]);
            switch (row[0]) {
                case 0:
                    return (c.fire(row[2], row[1]) ? 1 : 0) == v;
                case 1:
                    return c.began() >= 0 && c.beganCell() == v;
                case 2:
                    return c.down >= 0 && Math.abs(c.down - v) <= 1;
                case 3:
                    return m.heavy() >= v;
                case 4:
                    return c.lasted() >= 0 && Math.abs(c.lasted() - v) <= 1;
                default:
                    return m.skin - m.frame >= v;
            }
        }

        boolean says(int why, int row) {
            needWhy(why);
            needIndex(row, now.rows.size());
            return so(course(why), now.rows.get(row));
        }

        private long odds(int why, int bits, boolean landings) {
            long odds = now.weights.get(why);
            Course c = course(why);
            for (int i = 0; i < now.rows.size(); i++) {
                if ((bits >> i) % 2 == 1) {
                    int w = wrong(now.rows.get(i));
                    odds *= so(c, now.rows.get(i)) ? 16 - w : w;
                }
            }
            for (int k = landings ? burnt(why) : 0; k > 0; k--) {
                odds /= 2;
            }
            return odds;
        }

        private int share(int why, int bits, boolean landings) {
            long sum = 0;
            for (int i = 0; i < whys.size(); i++) {
                sum += odds(i, bits, landings);
            }
            return sum == 0 ? 0 : (int) (odds(why, bits, landings) * 1000 / sum);
        }

        private int best(int bits, boolean landings) {
            int found = -1;
            long most = -1;
            for (int i = 0; i < whys.size(); i++) {
                long odds = odds(i, bits, landings);
                if (odds > most) {
                    most = odds;
                    found = i;
                }
            }
            return found;
        }

        long odds(int why) {
            needWhy(why);
            return odds(why, 1023, true);
        }

        int share(int why) {
            needWhy(why);
            return share(why, 1023, true);
        }

        int best() {
            return best(1023, true);
        }

        int moved(int why, int row) {
            needWhy(why);
            needIndex(row, now.rows.size());
            return share(why, 1023, true) - share(why, 1023 - (1 << row), true);
        }

        int inquiry(int bits, int why) {
            if (why != -1) {
                needWhy(why);
            }
            need(in(bits, 0, (1 << now.rows.size()) - 1));
            return why == -1 ? best(bits, false) : share(why, bits, false);
        }

        int before(int rain, int charge) {
            needNumber(0, rain);
            needNumber(2, charge);
            if (now.before.size() == 10) {
                return -1;
            }
            now.before.add(new int[] {rain, charge});
            return now.before.size();
        }

        int burnt(int why) {
            needWhy(why);
            int many = 0;
            for (int[] b : now.before) {
                int[] p = now.numbers.clone();
                p[0] = b[0];
                p[2] = b[1];
                many += course(why, p).began() >= 0 ? 1 : 0;
            }
            return many;
        }

        int option(int which, int v, int cost) {
            needNumber(which, v);
            need(in(cost, 0, 999));
            if (now.options.size() == 5) {
                return -1;
            }
            now.options.add(new int[] {which, v, cost});
            return now.options.size() - 1;
        }

        private boolean isSafe(int why, int bits, int seconds) {
            int[] p = now.numbers.clone();
            for (int i = 0; i < now.options.size(); i++) {
                if ((bits >> i) % 2 == 1) {
                    p[now.options.get(i)[0]] = now.options.get(i)[1];
                }
            }
            int lasted = course(why, p).lasted();
            return lasted < 0 || lasted >= seconds;
        }

        boolean safe(int why, int bits, int seconds) {
            needWhy(why);
            need(in(bits, 0, (1 << now.options.size()) - 1) && in(seconds, 0, 99));
            return isSafe(why, bits, seconds);
        }

        private int leastOf(List<Integer> which, int seconds) {
            List<int[]> safe = new ArrayList<>();
            for (int bits = 0; bits < 1 << now.options.size(); bits++) {
                int b = bits;
                if (which.stream().allMatch(w -> isSafe(w, b, seconds))) {
                    int cost = 0;
                    for (int i = 0; i < now.options.size(); i++) {
                        cost += (bits >> i) % 2 * now.options.get(i)[2];
                    }
                    safe.add(new int[] {cost, bits});
                }
            }
            safe.sort(Comparator.<int[]>comparingInt(x -> x[0]).thenComparingInt(x -> x[1]));
            return safe.isEmpty() ? -1 : safe.get(0)[1];
        }

        int least(int why, int seconds) {
            needWhy(why);
            need(in(seconds, 0, 99));
            return leastOf(List.of(why), seconds);
        }

        int all(int seconds) {
            need(in(seconds, 0, 99));
            List<Integer> every = new ArrayList<>();
            for (int i = 0; i < whys.size(); i++) {
                every.add(i);
            }
            return leastOf(every, seconds);
        }

        int next(int second) {
            need(in(second, 0, 99));
            int found = -1;
            long least = Long.MAX_VALUE;
            for (int c = 0; c < 8 && !whys.isEmpty(); c++) {
                long[] parts = new long[2];
                for (int w = 0; w < whys.size(); w++) {
                    parts[course(w).fire(c, second) ? 1 : 0] += odds(w);
                }
                if (Math.max(parts[0], parts[1]) < least) {
                    least = Math.max(parts[0], parts[1]);
                    found = c;
                }
            }
            return found;
        }

        int parted(int why, int other) {
            needWhy(why);
            needWhy(other);
            Course a = course(why);
            Course b = course(other);
            for (int s = 0; s < 100; s++) {
                Moment m = a.moments.get(s);
                Moment n = b.moments.get(s);
                if (!Arrays.equals(m.gas, n.gas) || !Arrays.equals(m.mixed, n.mixed) || !Arrays.equals(m.began, n.began)
                        || m.height != n.height) {
                    return s;
                }
            }
            return -1;
        }

        int order(int why, int k) {
            needWhy(why);
            int[] began = course(why).moments.get(99).began;
            List<Integer> cells = new ArrayList<>();
            for (int c = 0; c < 8; c++) {
                if (began[c] >= 0) {
                    cells.add(c);
                }
            }
            cells.sort(Comparator.comparingInt(c -> began[c]));
            return in(k, 0, cells.size() - 1) ? cells.get(k) : -1;
        }

        int dry(int why) {
            needWhy(why);
            for (int leads = 0; leads <= 999; leads++) {
                int[] p = now.numbers.clone();
                p[1] = leads;
                if (course(why, p).began() < 0) {
                    return leads;
                }
            }
            return -1;
        }

        int image() {
            if (images.size() == 3) {
                return -1;
            }
            images.add(now.copy());
            return images.size();
        }

        int restore() {
            if (images.isEmpty()) {
                return -1;
            }
            now = images.remove(images.size() - 1);
            while (now.weights.size() < whys.size()) {
                now.weights.add(10);
            }
            return images.size();
        }

        int count(int what) {
            int[] all = {whys.size(), now.rows.size(), now.before.size(), now.options.size(), images.size(), tape.length()};
            return in(what, 0, 5) ? all[what] : in(what, 10, 19) ? now.numbers[what - 10] : -1;
        }
    }
}
