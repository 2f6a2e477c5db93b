import java.util.function.LongSupplier;

/**
 * A new object for one test, with the steps that tests share. A test's calls
 * stay below 512, as what later ones answer is free.
 */
abstract class Scene {
    static final int NONE = -1, BAD = -2, STATE = -3, FULL = -4;
    static final int NOTHING = -11, OUTSIDE = -12, OTHER_SORT = -13, BELOW_ZERO = -14;
    static final int NONE_SUCH = -100, NO_ANSWER = -100000;
    static final int MISSING = -1, BYTES = 0, SHORTS = 1, INTS = 2;
    static final int PLAIN = 0, AFTER = 1, SHIFTED = 2, AT_ENDS = 3, VOWELS_ALONE = 4, BACK_TO_FRONT = 5;
    static final int LEAST = Integer.MIN_VALUE, MOST = Integer.MAX_VALUE;
    static final int FIRST_VOWELS = 1065233, ALL_LETTERS = 67108863;
    static final String TEN = "aaaaaaaaaa";

    AfterEachVowel x = new AfterEachVowel();

    // ---- what is due

    static void due(long got, long want) {
        Due.is(got == want ? "" : place(), got, want);
    }

    static void same(String got, String want) {
        boolean so = got.equals(want);
        Due.holds(so ? "" : place() + ": " + got + ", due is " + want + ";", so);
    }

    /** A refusal changes nothing. */
    void refused(LongSupplier call, long want) {
        changesNothing(call, want);
    }

    /** The call answers so, and nothing that can be asked for has changed. */
    void changesNothing(LongSupplier call, long want) {
        String before = whole();
        due(call.getAsLong(), want);
        same(whole(), before);
    }

    /** The test and its line, for one that fails. */
    private static String place() {
        for (StackTraceElement frame : new Throwable().getStackTrace()) {
            if (frame.getMethodName().contains("promise")) {
                return frame.getClassName() + "." + frame.getMethodName() + ", line " + frame.getLineNumber();
            }
        }
        return "a test";
    }

    // ---- steps

    /** A word as letters a .. z, by sheet 3. */
    int word(String letters, int weight) {
        letters(3, letters);
        return x.learn(3, weight);
    }

    int word(String letters) {
        return word(letters, 0);
    }

    void words(String... all) {
        for (String letters : all) {
            word(letters);
        }
    }

    void letters(int sheet, String letters) {
        x.sheet(sheet, BYTES, letters.length());
        for (int i = 0; i < letters.length(); i++) {
            x.cell(sheet, i, letters.charAt(i) - 'a');
        }
    }

    void numbers(int sheet, int sort, int... numbers) {
        x.sheet(sheet, sort, numbers.length);
        for (int i = 0; i < numbers.length; i++) {
            x.cell(sheet, i, numbers[i]);
        }
    }

    void row(int... rules) {
        for (int rule : rules) {
            x.then(rule);
        }
    }

    void feed(String bytes) {
        for (int i = 0; i < bytes.length(); i++) {
            x.feed(bytes.charAt(i));
        }
    }

    int read(String text) {
        feed(text);
        return x.text();
    }

    /** A text of these three becomes THE LAW. */
    void law(String hard, String hides, String minds) {
        x.force(read("hard " + hard + ";hides " + hides + ";minds " + minds + ";"));
    }

    // ---- what is told

    /** What a word is SAID as; - for TOO LONG. */
    String said(int word) {
        int size = x.said(word, NONE);
        StringBuilder letters = new StringBuilder();
        for (int i = 0; i < size; i++) {
            letters.append((char) ('a' + x.said(word, i)));
        }
        return size == STATE ? "-" : letters.toString();
    }

    String turned(int word, int rule) {
        int size = x.turned(word, rule, NONE);
        StringBuilder letters = new StringBuilder();
        for (int i = 0; i < size; i++) {
            letters.append((char) ('a' + x.turned(word, rule, i)));
        }
        return letters.toString();
    }

    /** All that can be asked for without a change. */
    String whole() {
        StringBuilder all = new StringBuilder();
        for (int what = 0; what < 6; what++) {
            all.append(x.count(what)).append(' ');
        }
        all.append(x.told(0, 0));
        for (int word = 0; word < x.count(0); word++) {
            all.append("; word ").append(x.told(word, 1));
            for (int i = 0; i < x.told(word, 6); i++) {
                all.append(' ').append(x.told(word, 10 + i));
            }
        }
        for (int rule = 0; rule < x.count(1); rule++) {
            all.append("; rule ").append(x.told(rule, 5)).append(' ');
            all.append(x.told(rule, 2)).append(' ').append(x.told(rule, 3));
        }
        for (int place = 0; place < x.count(2); place++) {
            all.append("; then ").append(x.told(place, 4));
        }
        for (int sheet = 0; sheet < 4; sheet++) {
            int sort = sort(sheet);
            all.append("; sheet ").append(sort).append(' ').append(sort == MISSING ? 0 : size(sheet));
        }
        return all.toString();
    }

    int sort(int sheet) {
        for (int sort = 0; sort < 3; sort++) {
            if (x.rules(sheet, sort, 0, 0) == 0) {
                return sort;
            }
        }
        return MISSING;
    }

    /** None can be copied from just behind the last item, but not from further behind. */
    int size(int sheet) {
        int size = 0;
        for (int step = 32; step > 0; step /= 2) {
            if (x.copy(sheet, size + step, sheet, 0, 0) == 0) {
                size += step;
            }
        }
        return size;
    }

    /** The items of a sheet, 1 .. 10 LETTERS, by a WORD that is learned from it. */
    String items(int sheet) {
        int word = x.learn(sheet, 0);
        StringBuilder letters = new StringBuilder();
        for (int i = 0; i < x.told(word, 6); i++) {
            letters.append((char) ('a' + x.told(word, 10 + i)));
        }
        return letters.toString();
    }
}
