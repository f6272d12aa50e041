import java.util.NoSuchElementException;
import java.util.concurrent.Callable;

/** What the tests share: a call against the answer that is due, and texts for the TAPE. */
abstract class Checks {
    static final int NONE = MastSparks.NONE;
    static final Class<?> NO_WHY = NoSuchElementException.class;
    static final Class<?> NO_INDEX = IndexOutOfBoundsException.class;
    static final Class<?> WRONG = IllegalArgumentException.class;

    // The least, the most and the first of each of the LANDING's numbers, as the document's Terms tell them.
    static final int[] LOW = {0, 0, 0, 0, 0, 1, 0, 0, 0, 0};
    static final int[] HIGH = {99, 999, 999, 99, 99, 20, 99, 9999, 99, 999};
    static final int[] FIRST = {2, 20, 200, 15, 3, 2, 20, 600, 6, 90};

    private static int passed = 0;
    private static int failed = 0;

    static void due(String what, long got, long want) {
        sameDue(what, String.valueOf(got), String.valueOf(want));
    }

    static void due(String what, boolean got, boolean want) {
        sameDue(what, String.valueOf(got), String.valueOf(want));
    }

    static void throwsDue(String what, Class<?> want, Callable<?> call) {
        sameDue(what, answerOf(call), thrown(want));
    }

    static void sameDue(String what, String got, String want) {
        if (got.equals(want)) {
            passed++;
        } else {
            failed++;
            System.out.println(what + " answered " + got + ", due is " + want);
        }
    }

    static String thrown(Class<?> exception) {
        return "throws." + exception.getSimpleName();
    }

    static String answerOf(Callable<?> call) {
        try {
            return String.valueOf(call.call());
        } catch (Exception e) {
            return "throws." + e.getClass().getSimpleName();
        }
    }

    static void feedText(MastSparks x, String text) {
        int[] n = new int[5];
        for (int from = 0; from < text.length(); from += 20) {
            for (int i = 0; i < 20; i++) {
                n[i / 4] = n[i / 4] << 8 | (from + i < text.length() ? text.charAt(from + i) & 255 : 0);
            }
            x.feed(n[0], n[1], n[2], n[3], n[4]);
        }
    }

    static int tell(MastSparks x, String text) {
        feedText(x, text);
        return x.why(text.length());
    }

    static MastSparks with(String... texts) {
        MastSparks x = new MastSparks();
        for (int i = 0; i < texts.length; i++) {
            int number = tell(x, texts[i]);
            if (number != i) {
                due("number of <" + texts[i] + "> with its FAULT at " + x.fault(), number, i);
            }
        }
        return x;
    }

    static void faultDue(String text, int fault, int place) {
        MastSparks x = new MastSparks();
        due("why of <" + text + ">", tell(x, text), fault - 10);
        due("fault of <" + text + ">", x.fault(), place);
        due("WHYS behind <" + text + ">", x.count(0), 0);
    }

    static void fine(String text) {
        MastSparks x = new MastSparks();
        due("why of <" + text + ">", tell(x, text), 0);
        due("fault of <" + text + ">", x.fault(), NONE);
    }

    static void end(String name) {
        System.out.println(name + ": " + passed + " passed, " + failed + " failed");
        if (failed != 0) {
            System.exit(1);
        }
    }
}
