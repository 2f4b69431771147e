import java.util.NoSuchElementException;

/** What the tests of the project share: how a text is written, how answers and the ROW are compared. */
abstract class TestBase {
    static final int LOW = Integer.MIN_VALUE;
    static final int HIGH = Integer.MAX_VALUE;
    static final int NONE = -1;
    static final int MISSING = -2;

    private static String name = "";
    private static int step = 0;
    private static int tests = 0;
    private static int wrong = 0;

    interface Check {
        void run();
    }

    interface Ask {
        long of(PlaneColumn x);
    }

    interface Maker {
        PlaneColumn make();
    }

    // ---- how a test begins and ends

    /** One test: its name is the place in the document and the sentence that it would see broken. */
    static void test(String sentence, Check check) {
        begin(sentence);
        try {
            check.run();
        } catch (RuntimeException e) {
            fail("threw " + e);
        }
    }

    static void begin(String test) {
        name = test;
        step = 0;
        tests++;
    }

    static void finish(String file) {
        System.out.println(file + ": " + tests + " tests, " + (wrong == 0 ? "all answers are as due" : wrong + " wrong"));
        if (wrong != 0) {
            System.exit(1);
        }
    }

    static void fail(String what) {
        wrong++;
        System.out.println(name + ", step " + step + ": " + what);
    }

    // ---- answers

    static void due(long got, long want) {
        step++;
        if (got != want) {
            fail("answered " + got + ", due is " + want);
        }
    }

    static void due(boolean got, boolean want) {
        due(got ? 1 : 0, want ? 1 : 0);
    }

    static void due(String got, String want) {
        step++;
        if (!got.equals(want)) {
            fail("is " + got + ", due is " + want);
        }
    }

    /** The answer and the whole ROW. */
    static void due(PlaneColumn x, long got, long want, long... row) {
        due(got, want);
        dueRow(x, row);
    }

    static void dueRow(PlaneColumn x, long... row) {
        due(x.count(2), row.length);
        for (int i = 0; i < row.length && i < x.count(2); i++) {
            due(x.row(i), row[i]);
        }
    }

    static void dueNumbers(PlaneColumn x, int... numbers) {
        due(x.count(0), numbers.length);
        for (int i = 0; i < numbers.length; i++) {
            due(x.rank(numbers[i], i + 1) - x.rank(numbers[i], i), 1);
        }
    }

    static void dueThrows(PlaneColumn x, int i) {
        int thrown = 0;
        try {
            x.row(i);
        } catch (NoSuchElementException e) {
            thrown = 1;
        }
        due(thrown, 1);
    }

    /** The call answers so, and afterwards nothing can be seen that is not as if it had not been asked. */
    static void dueNothingElse(Maker maker, Ask ask, long want) {
        PlaneColumn x = maker.make();
        due(ask.of(x), want);
        due(seen(x), seen(maker.make()));
    }

    // ---- what can be seen of an object

    /** The ROW, then all else; reading it uses the object up. */
    static String seen(PlaneColumn x) {
        StringBuilder all = new StringBuilder("ROW");
        for (int i = 0; i < x.count(2); i++) {
            all.append(' ').append(x.row(i));
        }
        return all.append("; ").append(seenButRow(x)).toString();
    }

    static String seenButRow(PlaneColumn x) {
        StringBuilder all = new StringBuilder();
        all.append("NUMBERS").append(numbersOf(x)).append("; LEVELS");
        for (int j = 0; j < 8; j++) {
            all.append(' ').append(x.level(j)).append(':').append(x.row(0)).append(':').append(x.row(1));
        }
        all.append("; unlike ").append(x.count(3)).append(", together ").append(x.count(4)).append(", ones ").append(x.count(5));
        all.append("; TEXT of ").append(x.count(1));
        return all.append(" read as ").append(x.column()).append(numbersOf(x)).toString();
    }

    static String numbersOf(PlaneColumn x) {
        StringBuilder all = new StringBuilder();
        for (int i = 0; i < x.count(0); i++) {
            x.from(0, i);
            all.append(' ').append(x.row(0));
        }
        return all.toString();
    }

    // ---- texts

    static void write(PlaneColumn x, String text) {
        x.end(0);
        for (int i = 0; i < text.length(); i += 4) {
            int v = 0;
            for (int k = i; k < i + 4; k++) {
                v = v << 8 | (k < text.length() ? text.charAt(k) : 0);
            }
            x.sign(v);
        }
        x.end(text.length());
    }

    static PlaneColumn of(String text) {
        PlaneColumn x = new PlaneColumn();
        write(x, text);
        x.column();
        return x;
    }

    static PlaneColumn with(int... numbers) {
        PlaneColumn x = new PlaneColumn();
        for (int v : numbers) {
            x.adds(v);
        }
        return x;
    }

    /** NUMBERS first, first + 1 and so on, so many. */
    static PlaneColumn rising(int first, int howMany) {
        PlaneColumn x = new PlaneColumn();
        for (int i = 0; i < howMany; i++) {
            x.adds(first + i);
        }
        return x;
    }

    static int columnOf(PlaneColumn x, String text) {
        write(x, text);
        return x.column();
    }

    static int planesOf(PlaneColumn x, String text) {
        write(x, text);
        return x.planes();
    }
}
