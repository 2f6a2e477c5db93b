/**
 * Words, rules that turn them, and what can be told from what is heard.
 * The document's names (SAID, WORTH, THE ROW ..) are used in comments as it
 * writes them. All rows are made once, in the constructor: no call makes any.
 */
public final class AfterEachVowel {
    public static final int NONE = -1, BAD = -2, STATE = -3, FULL = -4;
    public static final long NO = -4611686018427387904L;

    private static final int NOTHING = -11, OUTSIDE = -12, OTHER_SORT = -13, BELOW_ZERO = -14;
    private static final int NONE_SUCH = -100, NO_ANSWER = -100000;

    private static final int LETTERS = 26, FIRST_VOWELS = 1065233;
    private static final int MOST_WORDS = 8, MOST_WORD_LETTERS = 10, MOST_WEIGHT = 99;
    private static final int MOST_RULES = 6, MOST_PLACES = 8, MOST_SAID = 40, TOO_LONG = -1;
    private static final int MOST_TEXTS = 6, MOST_TAPE = 160, MOST_OPEN = 5, MOST_TOLD = 99;
    private static final int MOST_ROUND = 60, MOST_SEEDS = 20;
    private static final int SHEETS = 4, MOST_ITEMS = 40, MISSING = -1, BYTES = 0, SHORTS = 1, INTS = 2;

    private static final int PLAIN = 0, AFTER = 1, SHIFTED = 2, AT_ENDS = 3, VOWELS_ALONE = 4, BACK_TO_FRONT = 5;
    private static final int KINDS = 6;
    /** The KIND that each KIND is under. */
    private static final int[] UNDER = {NONE, PLAIN, PLAIN, AFTER, SHIFTED, PLAIN};

    private static final String FIRST_LAW = "hard long + vowels ; hides rules * 5 ; minds weight ;";

    private final State now = new State();
    private final State kept = new State();
    private boolean isKept;
    private final Text[] texts = new Text[MOST_TEXTS];
    private int textCount;
    private final Tape tape = new Tape();
    private final Parser parser = new Parser();
    private final Sheet[] sheets = new Sheet[SHEETS];
    private final Sayings sayings = new Sayings();
    private final Saying spare = new Saying();
    private final Row supposed = new Row();
    private final Judge judge = new Judge();
    private final Orders orders = new Orders();

    public AfterEachVowel() {
        for (int i = 0; i < MOST_TEXTS; i++) {
            texts[i] = new Text();
        }
        for (int i = 0; i < SHEETS; i++) {
            sheets[i] = new Sheet();
        }
        for (int i = 0; i < FIRST_LAW.length(); i++) {
            tape.put(FIRST_LAW.charAt(i));
        }
        parser.read(tape, texts[0]);
        tape.size = 0;
        textCount = 1;
    }

    // ---- words, rules, the row

    public int learn(int sheet, int weight) {
        if (!isSheet(sheet) || !isWithin(weight, MOST_WEIGHT)) {
            return BAD;
        }
        Sheet teller = sheets[sheet];
        if (teller.isMissing()) {
            return NOTHING;
        }
        if (!teller.tellsWord()) {
            return BAD;
        }
        return now.words == MOST_WORDS ? FULL : now.addWord(teller, weight);
    }

    public int rule(int kind, int letter, int number) {
        if (!isRule(kind, letter, number)) {
            return BAD;
        }
        return now.rules == MOST_RULES ? FULL : now.addRule(kind, letter, number);
    }

    public int then(int rule) {
        if (!now.hasRule(rule)) {
            return BAD;
        }
        if (now.row.size == MOST_PLACES) {
            return FULL;
        }
        now.row.push(rule);
        return now.row.size;
    }

    public int clear() {
        int had = now.row.size;
        now.row.size = 0;
        return had;
    }

    public int set(int what, int of, int v) {
        if (!now.hasPart(what, of) || !now.canHold(what, v)) {
            return NONE_SUCH;
        }
        int was = now.part(what, of);
        now.change(what, of, v);
        return was;
    }

    public int told(int of, int what) {
        if (what >= 10 && what < 10 + MOST_WORD_LETTERS) {
            return now.hasWord(of) ? now.letterOf(of, what - 10) : NONE_SUCH;
        }
        switch (what) {
            case 5:
                return now.hasRule(of) ? now.kinds[of] : NONE_SUCH;
            case 6:
                return now.hasWord(of) ? now.sizes[of] : NONE_SUCH;
            default:
                return now.hasPart(what, of) ? now.part(what, of) : NONE_SUCH;
        }
    }

    // ---- texts

    public int feed(int letter) {
        if (!isWithin(letter, 255)) {
            return BAD;
        }
        if (tape.size == MOST_TAPE) {
            return FULL;
        }
        tape.put(letter);
        return tape.size;
    }

    public int text() {
        if (textCount == MOST_TEXTS) {
            return FULL;
        }
        int fault = parser.read(tape, texts[textCount]);
        tape.size = 0;
        if (fault != NONE) {
            return -100 - fault;
        }
        textCount++;
        return textCount - 1;
    }

    public int force(int text) {
        if (text < 0 || text >= textCount) {
            return BAD;
        }
        int was = now.law;
        now.law = text;
        return was;
    }

    // ---- what is said

    public int said(int word, int k) {
        if (!now.hasWord(word) || !isSaidPlace(k)) {
            return BAD;
        }
        spare.say(now, now.row, word);
        return spare.answer(k);
    }

    public int turned(int word, int rule, int k) {
        if (!now.hasWord(word) || !now.hasRule(rule) || !isSaidPlace(k)) {
            return BAD;
        }
        spare.sayByOne(now, rule, word);
        return spare.answer(k);
    }

    public int of(int word, int what) {
        if (!now.hasWord(word)) {
            return BAD;
        }
        switch (what) {
            case 0:
            case 1:
            case 2:
                return judged(word, what);
            case 3:
                return roundOf(word);
            case 4:
                return safeLetters(word);
            default:
                return BAD;
        }
    }

    public int all(int what) {
        switch (what) {
            case 0:
                return worthBy(now.row);
            case 1:
                sayings.sayAll(now, now.row);
                return sayings.alike();
            case 2:
                sayings.sayAll(now, now.row);
                return sayings.apart();
            case 3:
                return idleRules();
            case 4:
                sayings.sayAll(now, now.row);
                return sayings.tooLong();
            default:
                return NO_ANSWER;
        }
    }

    // ---- what would be best

    public int leave(int what) {
        if (!isWithin(what, 1)) {
            return NO_ANSWER;
        }
        int best = NONE;
        int most = worthBy(now.row);
        for (int place = 0; place < now.row.size; place++) {
            supposed.becomeWithout(now.row, place);
            int worth = worthBy(supposed);
            if (worth > most) {
                most = worth;
                best = place;
            }
        }
        return what == 0 ? best : most;
    }

    public int order(int what) {
        if (!isWithin(what, 1)) {
            return NO_ANSWER;
        }
        orders.search(now, law());
        return what == 0 ? orders.most : orders.best;
    }

    public int letter(int rule, int what) {
        if (!isWithin(what, 1) || !now.hasRule(rule)) {
            return NO_ANSWER;
        }
        int own = now.ruleLetters[rule];
        int best = NONE;
        int most = 0;
        for (int letter = 0; letter < LETTERS; letter++) {
            now.ruleLetters[rule] = letter;
            int worth = worthBy(now.row);
            if (best == NONE || worth > most) {
                most = worth;
                best = letter;
            }
        }
        now.ruleLetters[rule] = own;
        return what == 0 ? best : most;
    }

    // ---- what was overheard

    public int heard(int sheet, int what) {
        if (!isSheet(sheet) || !isWithin(what, 2)) {
            return BAD;
        }
        Sheet teller = sheets[sheet];
        if (teller.isMissing()) {
            return NOTHING;
        }
        switch (what) {
            case 0:
                return wordsSaidAs(teller);
            case 1:
                return rulesTurningTo(teller);
            default:
                return pairsTurningTo(teller);
        }
    }

    public int found(int sheet, int word, int rule, int what) {
        if (!isSheet(sheet) || !now.hasWord(word) || !now.hasRule(rule) || !isWithin(what, 2)) {
            return BAD;
        }
        Sheet teller = sheets[sheet];
        if (teller.isMissing()) {
            return NOTHING;
        }
        switch (what) {
            case 0:
                return fitting(teller, word, now.ruleLetters, rule, LETTERS);
            case 1:
                return fitting(teller, word, now.numbers, rule, LETTERS);
            default:
                return fitting(teller, word, now.kinds, rule, KINDS);
        }
    }

    public int alikeTexts() {
        sayings.sayAll(now, now.row);
        int worth = judge.worth(now, now.row, law(), sayings);
        int bits = 0;
        for (int text = 0; text < textCount; text++) {
            if (judge.worth(now, now.row, texts[text], sayings) == worth) {
                bits |= 1 << text;
            }
        }
        return bits;
    }

    public int film(int sheet, int word) {
        if (!isSheet(sheet) || !now.hasWord(word)) {
            return BAD;
        }
        spare.say(now, now.row, word);
        if (spare.isTooLong()) {
            return STATE;
        }
        sheets[sheet].becomeSaying(spare);
        return spare.size;
    }

    public int drawn(int seed) {
        supposed.draw(seed, now.rules);
        return worthBy(supposed);
    }

    public long chance(int seed, int n, int part) {
        if (n < 1 || n > MOST_SEEDS || !isWithin(part, 1)) {
            return NO;
        }
        int good = 0;
        for (int i = 0; i < n; i++) {
            supposed.draw(seed + i, now.rules);
            sayings.sayAll(now, supposed);
            if (sayings.alike() == 0) {
                good++;
            }
        }
        int shared = commonDivisor(good, n);
        return part == 0 ? good / shared : n / shared;
    }

    public int image() {
        kept.become(now);
        isKept = true;
        return kept.words;
    }

    public int back() {
        if (!isKept) {
            return STATE;
        }
        now.become(kept);
        return now.words;
    }

    public int count(int what) {
        switch (what) {
            case 0:
                return now.words;
            case 1:
                return now.rules;
            case 2:
                return now.row.size;
            case 3:
                return textCount;
            case 4:
                return tape.size;
            case 5:
                return now.law;
            default:
                return BAD;
        }
    }

    // ---- the host

    public int sheet(int sheet, int sort, int n) {
        if (!isSheet(sheet) || sort < MISSING || sort > INTS) {
            return BAD;
        }
        if (sort == MISSING) {
            sheets[sheet].become(MISSING, 0);
            return 1;
        }
        if (n > MOST_ITEMS) {
            return BAD;
        }
        if (n < 0) {
            return BELOW_ZERO;
        }
        sheets[sheet].become(sort, n);
        return 1;
    }

    public int cell(int sheet, int i, int v) {
        if (!isSheet(sheet)) {
            return BAD;
        }
        Sheet target = sheets[sheet];
        if (target.isMissing()) {
            return NOTHING;
        }
        if (i < 0 || i >= target.size) {
            return OUTSIDE;
        }
        target.put(i, v);
        return 1;
    }

    public int copy(int sheet, int i, int other, int j, int n) {
        if (!isSheet(sheet) || !isSheet(other)) {
            return BAD;
        }
        Sheet source = sheets[sheet];
        Sheet target = sheets[other];
        if (source.isMissing() || target.isMissing()) {
            return NOTHING;
        }
        if (source.sort != target.sort) {
            return OTHER_SORT;
        }
        if (!source.holds(i, n) || !target.holds(j, n)) {
            return OUTSIDE;
        }
        System.arraycopy(source.items, i, target.items, j, n);
        return n;
    }

    public int rules(int sheet, int sort, int from, int n) {
        if (!isSheet(sheet) || sort < BYTES || sort > INTS || !isWithin(n, MOST_RULES)) {
            return BAD;
        }
        Sheet teller = sheets[sheet];
        if (teller.isMissing()) {
            return NOTHING;
        }
        if (teller.sort != sort) {
            return OTHER_SORT;
        }
        int came = 0;
        for (int i = 0; i < n; i++) {
            int at = from + 3 * i;
            if (!teller.holds(at, 3)) {
                return OUTSIDE;
            }
            if (rule(teller.items[at], teller.items[at + 1], teller.items[at + 2]) >= 0) {
                came++;
            }
        }
        return came;
    }

    public int taken(int rule, int k) {
        if (!isWithin(k, KINDS - 1)) {
            return BAD;
        }
        if (!now.hasRule(rule)) {
            return NOTHING;
        }
        return isUnder(now.kinds[rule], k) ? now.numbers[rule] : OTHER_SORT;
    }

    // ---- what the calls share

    private static boolean isWithin(int v, int most) {
        return v >= 0 && v <= most;
    }

    private static boolean isSheet(int sheet) {
        return isWithin(sheet, SHEETS - 1);
    }

    private static boolean isLetter(int v) {
        return isWithin(v, LETTERS - 1);
    }

    private static boolean isRule(int kind, int letter, int number) {
        return isWithin(kind, KINDS - 1) && isLetter(letter) && isLetter(number);
    }

    private static boolean isSaidPlace(int k) {
        return k >= NONE && k < MOST_SAID;
    }

    private static boolean isUnder(int kind, int above) {
        int at = kind;
        for (int i = 0; i < KINDS && isWithin(at, KINDS - 1); i++) {
            if (at == above) {
                return true;
            }
            at = UNDER[at];
        }
        return false;
    }

    /** 1 at least, so that it can divide; n is at most MOST_SEEDS. */
    private static int commonDivisor(int m, int n) {
        int most = 1;
        for (int d = 2; d <= n; d++) {
            if (m % d == 0 && n % d == 0) {
                most = d;
            }
        }
        return most;
    }

    private Text law() {
        return texts[now.law];
    }

    private int worthBy(Row row) {
        sayings.sayAll(now, row);
        return judge.worth(now, row, law(), sayings);
    }

    private int judged(int word, int what) {
        spare.say(now, now.row, word);
        if (spare.isTooLong()) {
            return 0;
        }
        judge.regard(now, now.row, word, spare);
        return what == Text.HARD ? judge.hard(now, now.row, law()) : law().tells(what, judge.facts);
    }

    private int roundOf(int word) {
        spare.begin(now, word);
        for (int n = 1; n <= MOST_ROUND; n++) {
            spare.turnByRow(now, now.row);
            // No turn makes a saying shorter: a longer one (or none) can't come round.
            if (spare.size != now.sizes[word]) {
                return NONE;
            }
            if (spare.isWord(now, word)) {
                return n;
            }
        }
        return NONE;
    }

    private int safeLetters(int word) {
        sayings.sayAll(now, now.row);
        int bits = 0;
        for (int place = 0; place < now.sizes[word]; place++) {
            if (isSafe(word, place)) {
                bits |= 1 << place;
            }
        }
        return bits;
    }

    /** Wants the sayings of all WORDS as they are. */
    private boolean isSafe(int word, int place) {
        int[] letters = now.letters[word];
        int own = letters[place];
        boolean safe = true;
        for (int letter = 0; letter < LETTERS && safe; letter++) {
            if (letter != own) {
                letters[place] = letter;
                spare.say(now, now.row, word);
                safe = !sayings.hasAnother(spare, word);
            }
        }
        letters[place] = own;
        return safe;
    }

    private int idleRules() {
        int bits = 0;
        for (int rule = 0; rule < now.rules; rule++) {
            if (isIdle(rule)) {
                bits |= 1 << rule;
            }
        }
        return bits;
    }

    private boolean isIdle(int rule) {
        for (int word = 0; word < now.words; word++) {
            spare.sayByOne(now, rule, word);
            if (!spare.isWord(now, word)) {
                return false;
            }
        }
        return true;
    }

    private int wordsSaidAs(Sheet teller) {
        int bits = 0;
        for (int word = 0; word < now.words; word++) {
            spare.say(now, now.row, word);
            if (teller.tells(spare)) {
                bits |= 1 << word;
            }
        }
        return bits;
    }

    private int wordsTurningTo(Sheet teller, int rule) {
        int found = 0;
        for (int word = 0; word < now.words; word++) {
            spare.sayByOne(now, rule, word);
            if (teller.tells(spare)) {
                found++;
            }
        }
        return found;
    }

    private int rulesTurningTo(Sheet teller) {
        int bits = 0;
        for (int rule = 0; rule < now.rules; rule++) {
            if (wordsTurningTo(teller, rule) > 0) {
                bits |= 1 << rule;
            }
        }
        return bits;
    }

    private int pairsTurningTo(Sheet teller) {
        int pairs = 0;
        for (int rule = 0; rule < now.rules; rule++) {
            pairs += wordsTurningTo(teller, rule);
        }
        return pairs;
    }

    /** The values (bits) of a trait of a RULE by which a WORD is SAID as a SHEET tells. */
    private int fitting(Sheet teller, int word, int[] trait, int rule, int values) {
        int own = trait[rule];
        int bits = 0;
        for (int v = 0; v < values; v++) {
            trait[rule] = v;
            spare.say(now, now.row, word);
            if (teller.tells(spare)) {
                bits |= 1 << v;
            }
        }
        trait[rule] = own;
        return bits;
    }

    /** All that AN IMAGE keeps. */
    private static final class State {
        int vowels = FIRST_VOWELS;
        final int[][] letters = new int[MOST_WORDS][MOST_WORD_LETTERS];
        final int[] sizes = new int[MOST_WORDS];
        final int[] weights = new int[MOST_WORDS];
        int words;
        final int[] kinds = new int[MOST_RULES];
        final int[] ruleLetters = new int[MOST_RULES];
        final int[] numbers = new int[MOST_RULES];
        int rules;
        final Row row = new Row();
        int law;

        boolean hasWord(int word) {
            return word >= 0 && word < words;
        }

        boolean hasRule(int rule) {
            return rule >= 0 && rule < rules;
        }

        int addWord(Sheet teller, int weight) {
            System.arraycopy(teller.items, 0, letters[words], 0, teller.size);
            sizes[words] = teller.size;
            weights[words] = weight;
            words++;
            return words - 1;
        }

        int addRule(int kind, int letter, int number) {
            kinds[rules] = kind;
            ruleLetters[rules] = letter;
            numbers[rules] = number;
            rules++;
            return rules - 1;
        }

        int letterOf(int word, int place) {
            return place < sizes[word] ? letters[word][place] : NONE;
        }

        /** What the numbers 0 .. 4 name, as of set(). */
        boolean hasPart(int what, int of) {
            switch (what) {
                case 0:
                    return true;
                case 1:
                    return hasWord(of);
                case 2:
                case 3:
                    return hasRule(of);
                case 4:
                    return of >= 0 && of < row.size;
                default:
                    return false;
            }
        }

        boolean canHold(int what, int v) {
            switch (what) {
                case 0:
                    return v >= 0 && v < 1 << LETTERS;
                case 1:
                    return isWithin(v, MOST_WEIGHT);
                case 4:
                    return hasRule(v);
                default:
                    return isLetter(v);
            }
        }

        /** Wants hasPart(). */
        int part(int what, int of) {
            switch (what) {
                case 0:
                    return vowels;
                case 1:
                    return weights[of];
                case 2:
                    return ruleLetters[of];
                case 3:
                    return numbers[of];
                default:
                    return row.rules[of];
            }
        }

        /** Wants hasPart() and canHold(). */
        void change(int what, int of, int v) {
            switch (what) {
                case 0:
                    vowels = v;
                    break;
                case 1:
                    weights[of] = v;
                    break;
                case 2:
                    ruleLetters[of] = v;
                    break;
                case 3:
                    numbers[of] = v;
                    break;
                default:
                    row.rules[of] = v;
                    break;
            }
        }

        void become(State other) {
            vowels = other.vowels;
            for (int word = 0; word < MOST_WORDS; word++) {
                System.arraycopy(other.letters[word], 0, letters[word], 0, MOST_WORD_LETTERS);
            }
            System.arraycopy(other.sizes, 0, sizes, 0, MOST_WORDS);
            System.arraycopy(other.weights, 0, weights, 0, MOST_WORDS);
            words = other.words;
            System.arraycopy(other.kinds, 0, kinds, 0, MOST_RULES);
            System.arraycopy(other.ruleLetters, 0, ruleLetters, 0, MOST_RULES);
            System.arraycopy(other.numbers, 0, numbers, 0, MOST_RULES);
            rules = other.rules;
            row.become(other.row);
            law = other.law;
        }
    }

    /** RULES one behind the other: THE ROW, or one that is only supposed. */
    private static final class Row {
        final int[] rules = new int[MOST_PLACES];
        int size;

        void push(int rule) {
            if (size < MOST_PLACES) {
                rules[size] = rule;
                size++;
            }
        }

        /** NONE, if there is none. */
        int last() {
            return size > 0 ? rules[size - 1] : NONE;
        }

        void become(Row other) {
            System.arraycopy(other.rules, 0, rules, 0, MOST_PLACES);
            size = other.size;
        }

        void becomeWithout(Row other, int place) {
            size = 0;
            for (int i = 0; i < other.size; i++) {
                if (i != place) {
                    push(other.rules[i]);
                }
            }
        }

        void draw(int seed, int ruleCount) {
            size = 0;
            if (ruleCount <= 0) {
                return;
            }
            int z = following(seed);
            int k = (z >>> 9) % 4 + 1;
            for (int i = 0; i < k; i++) {
                z = following(z);
                push((z >>> 9) % ruleCount);
            }
        }

        private static int following(int z) {
            return z * 1103515245 + 12345;
        }
    }

    /** LETTERS that rules turn in place; of size TOO_LONG it is no saying at all. */
    private static final class Saying {
        final int[] letters = new int[MOST_SAID];
        int size;

        boolean isTooLong() {
            return size == TOO_LONG;
        }

        void begin(State state, int word) {
            size = state.sizes[word];
            System.arraycopy(state.letters[word], 0, letters, 0, size);
        }

        void say(State state, Row row, int word) {
            begin(state, word);
            turnByRow(state, row);
        }

        void sayByOne(State state, int rule, int word) {
            begin(state, word);
            turn(state, rule);
        }

        void become(Saying other) {
            size = other.size;
            if (size > 0) {
                System.arraycopy(other.letters, 0, letters, 0, size);
            }
        }

        void turnByRow(State state, Row row) {
            for (int i = 0; i < row.size; i++) {
                turn(state, row.rules[i]);
            }
        }

        void turn(State state, int rule) {
            if (isTooLong()) {
                return;
            }
            switch (state.kinds[rule]) {
                case AFTER:
                    putAfterVowels(state.ruleLetters[rule], state.vowels);
                    break;
                case SHIFTED:
                    shift(state.numbers[rule]);
                    break;
                case AT_ENDS:
                    putAfterVowels(state.ruleLetters[rule], state.vowels);
                    repeatFirst();
                    break;
                case VOWELS_ALONE:
                    shiftVowels(state.numbers[rule], state.vowels);
                    break;
                case BACK_TO_FRONT:
                    reverse();
                    break;
                default:
                    break;
            }
        }

        int vowelCount(int vowels) {
            int found = 0;
            for (int i = 0; i < size; i++) {
                found += vowels >>> letters[i] & 1;
            }
            return found;
        }

        private void putAfterVowels(int letter, int vowels) {
            int to = size + vowelCount(vowels);
            if (to > MOST_SAID) {
                size = TOO_LONG;
                return;
            }
            int from = size - 1;
            size = to;
            // From the end on, so that nothing is overwritten before it has moved.
            for (; from >= 0; from--) {
                int moved = letters[from];
                if ((vowels >>> moved & 1) != 0) {
                    to--;
                    letters[to] = letter;
                }
                to--;
                letters[to] = moved;
            }
        }

        private void repeatFirst() {
            if (isTooLong()) {
                return;
            }
            if (size == MOST_SAID) {
                size = TOO_LONG;
                return;
            }
            letters[size] = letters[0];
            size++;
        }

        private void shift(int number) {
            for (int i = 0; i < size; i++) {
                letters[i] = (letters[i] + number) % LETTERS;
            }
        }

        private void shiftVowels(int number, int vowels) {
            for (int i = 0; i < size; i++) {
                if ((vowels >>> letters[i] & 1) != 0) {
                    letters[i] = (letters[i] + number) % LETTERS;
                }
            }
        }

        private void reverse() {
            for (int i = 0, j = size - 1; i < j; i++, j--) {
                int first = letters[i];
                letters[i] = letters[j];
                letters[j] = first;
            }
        }

        /** How many LETTERS (k NONE), or LETTER k; STATE, if it is TOO LONG. */
        int answer(int k) {
            if (isTooLong()) {
                return STATE;
            }
            if (k == NONE) {
                return size;
            }
            return k >= 0 && k < size ? letters[k] : NONE;
        }

        /** Nothing is like what is no saying at all. */
        boolean isLike(Saying other) {
            if (isTooLong() || size != other.size) {
                return false;
            }
            for (int i = 0; i < size; i++) {
                if (letters[i] != other.letters[i]) {
                    return false;
                }
            }
            return true;
        }

        boolean isWord(State state, int word) {
            if (size != state.sizes[word]) {
                return false;
            }
            for (int i = 0; i < size; i++) {
                if (letters[i] != state.letters[word][i]) {
                    return false;
                }
            }
            return true;
        }

        /** Wants two sayings of the same length. */
        int differences(Saying other) {
            int found = 0;
            for (int i = 0; i < size; i++) {
                if (letters[i] != other.letters[i]) {
                    found++;
                }
            }
            return found;
        }
    }

    /** What all WORDS become. */
    private static final class Sayings {
        final Saying[] each = new Saying[MOST_WORDS];
        int size;

        Sayings() {
            for (int word = 0; word < MOST_WORDS; word++) {
                each[word] = new Saying();
            }
        }

        void begin(State state) {
            size = state.words;
            for (int word = 0; word < size; word++) {
                each[word].begin(state, word);
            }
        }

        void sayAll(State state, Row row) {
            size = state.words;
            for (int word = 0; word < size; word++) {
                each[word].begin(state, word);
                each[word].turnByRow(state, row);
            }
        }

        void becomeTurned(Sayings other, State state, int rule) {
            size = other.size;
            for (int word = 0; word < size; word++) {
                each[word].become(other.each[word]);
                each[word].turn(state, rule);
            }
        }

        int alike() {
            int bits = 0;
            for (int word = 0; word < size; word++) {
                for (int other = word + 1; other < size; other++) {
                    if (each[word].isLike(each[other])) {
                        bits |= 1 << word | 1 << other;
                    }
                }
            }
            return bits;
        }

        int apart() {
            int least = NONE;
            for (int word = 0; word < size; word++) {
                for (int other = word + 1; other < size; other++) {
                    if (!each[word].isTooLong() && each[word].size == each[other].size) {
                        int d = each[word].differences(each[other]);
                        least = least == NONE ? d : Math.min(least, d);
                    }
                }
            }
            return least;
        }

        int tooLong() {
            int bits = 0;
            for (int word = 0; word < size; word++) {
                if (each[word].isTooLong()) {
                    bits |= 1 << word;
                }
            }
            return bits;
        }

        boolean hasAnother(Saying saying, int than) {
            for (int word = 0; word < size; word++) {
                if (word != than && saying.isLike(each[word])) {
                    return true;
                }
            }
            return false;
        }
    }

    /** HARD, hides, minds and WORTH by a text. */
    private static final class Judge {
        final int[] facts = new int[Tape.NAMES];

        /** What the NAMES of texts tell from now on; wants a saying that isn't TOO LONG. */
        void regard(State state, Row row, int word, Saying saying) {
            int last = row.last();
            facts[0] = saying.size;
            facts[1] = saying.vowelCount(state.vowels);
            facts[2] = row.size;
            facts[3] = last == NONE ? 0 : state.numbers[last];
            facts[4] = word;
            facts[5] = state.weights[word];
        }

        int hard(State state, Row row, Text law) {
            int v = law.tells(Text.HARD, facts);
            int last = row.last();
            return last == NONE ? v : Math.max(0, hardBy(state.kinds[last], state.numbers[last], v));
        }

        private static int hardBy(int kind, int number, int v) {
            switch (kind) {
                case AFTER:
                case AT_ENDS:
                    return v + 1;
                case SHIFTED:
                    return v * 2;
                case VOWELS_ALONE:
                    return v * 2 / 2;
                case BACK_TO_FRONT:
                    return v + number;
                default:
                    return v;
            }
        }

        int worth(State state, Row row, Text law, Sayings sayings) {
            int alike = sayings.alike();
            int worth = 0;
            for (int word = 0; word < sayings.size; word++) {
                if (!sayings.each[word].isTooLong()) {
                    regard(state, row, word, sayings.each[word]);
                    worth += law.tells(Text.HIDES, facts) - hard(state, row, law);
                    if ((alike >>> word & 1) != 0) {
                        worth -= law.tells(Text.MINDS, facts);
                    }
                }
            }
            return worth;
        }
    }

    /** Goes through all ways to have all RULES in THE ROW, each once. */
    private static final class Orders {
        /** stages[d]: all WORDS, turned by the first d RULES of the way that is looked at. */
        private final Sayings[] stages = new Sayings[MOST_RULES + 1];
        private final Row way = new Row();
        private final Judge judge = new Judge();
        private boolean isFirst;
        int most;
        int best;

        Orders() {
            for (int d = 0; d <= MOST_RULES; d++) {
                stages[d] = new Sayings();
            }
        }

        void search(State state, Text law) {
            isFirst = true;
            way.size = 0;
            stages[0].begin(state);
            goOn(state, law, 0, 0, 0);
        }

        /** depth RULES stand already: used (bits), as digits. */
        private void goOn(State state, Text law, int depth, int used, int digits) {
            if (depth >= state.rules || depth >= MOST_RULES) {
                keepBetter(judge.worth(state, way, law, stages[depth]), digits);
                return;
            }
            for (int rule = 0; rule < state.rules; rule++) {
                if ((used >>> rule & 1) == 0) {
                    way.size = depth;
                    way.push(rule);
                    stages[depth + 1].becomeTurned(stages[depth], state, rule);
                    goOn(state, law, depth + 1, used | 1 << rule, digits * 10 + rule + 1);
                }
            }
        }

        private void keepBetter(int worth, int digits) {
            if (isFirst || worth > most) {
                isFirst = false;
                most = worth;
                best = digits;
            }
        }
    }

    /** A text that was read: cells, each after those that it is worked out from. */
    private static final class Text {
        static final int HARD = 0, HIDES = 1, MINDS = 2, PARTS = 3;
        static final int NUMBER = 0, NAME = 1, OR = 2, AND = 3, NOT = 4, LESS = 5, SAME = 6;
        static final int PLUS = 7, MINUS = 8, TIMES = 9, NEGATE = 10;

        private final int[] ops = new int[MOST_TAPE];
        private final int[] lefts = new int[MOST_TAPE];
        private final int[] rights = new int[MOST_TAPE];
        private final int[] values = new int[MOST_TAPE];
        /** Where each part ends. */
        private final int[] ends = new int[PARTS];
        private int size;

        void empty() {
            size = 0;
        }

        /** Left and right are cells; for a NUMBER left is its value, for a NAME which it is. */
        int add(int op, int left, int right) {
            if (size >= MOST_TAPE) {
                return NONE;
            }
            ops[size] = op;
            lefts[size] = left;
            rights[size] = right;
            size++;
            return size - 1;
        }

        void endPart(int part) {
            ends[part] = size;
        }

        /** What hard, hides or minds tells, within its bounds. */
        int tells(int part, int[] facts) {
            int value = 0;
            for (int i = part == HARD ? 0 : ends[part - 1]; i < ends[part]; i++) {
                value = worked(ops[i], lefts[i], rights[i], facts);
                values[i] = value;
            }
            return Math.max(0, Math.min(MOST_TOLD, value));
        }

        private int worked(int op, int left, int right, int[] facts) {
            switch (op) {
                case NUMBER:
                    return left;
                case NAME:
                    return facts[left];
                case OR:
                    return values[left] != 0 || values[right] != 0 ? 1 : 0;
                case AND:
                    return values[left] != 0 && values[right] != 0 ? 1 : 0;
                case NOT:
                    return values[left] == 0 ? 1 : 0;
                case LESS:
                    return values[left] < values[right] ? 1 : 0;
                case SAME:
                    return values[left] == values[right] ? 1 : 0;
                case PLUS:
                    return values[left] + values[right];
                case MINUS:
                    return values[left] - values[right];
                case TIMES:
                    return values[left] * values[right];
                default:
                    return -values[left];
            }
        }
    }

    /** THE TAPE, and the TOKENS on it. */
    private static final class Tape {
        /** Kinds of TOKENS; a SIGN is its own kind. FAULTY can't stand anywhere. */
        static final int END = 0, FAULTY = 1, NUMBER = 2, NAME = 3;
        static final int HARD = 4, HIDES = 5, MINDS = 6, OR = 7, AND = 8, NOT = 9;
        static final int NAMES = 6;
        private static final int SPELLINGS = 12, MOST_DIGITS = 4;
        private static final String SIGNS = "();+-*<=";

        final int[] bytes = new int[MOST_TAPE];
        int size;
        final int[] kinds = new int[MOST_TAPE + 1];
        final int[] values = new int[MOST_TAPE + 1];
        final int[] places = new int[MOST_TAPE + 1];
        int tokens;

        void put(int b) {
            if (size < MOST_TAPE) {
                bytes[size] = b;
                size++;
            }
        }

        /** Up to the end, or to the first one that is FAULTY by itself. */
        void scan() {
            tokens = 0;
            int place = 0;
            boolean more = true;
            for (int i = 0; i <= MOST_TAPE && more; i++) {
                place = scanToken(afterBlanks(place));
                more = kinds[i] > FAULTY;
            }
        }

        private int afterBlanks(int from) {
            int place = from;
            while (place < size && (bytes[place] == 32 || bytes[place] == 10)) {
                place++;
            }
            return place;
        }

        /** Where the TOKEN ends. */
        private int scanToken(int place) {
            if (place >= size) {
                return addToken(END, 0, size, size);
            }
            int b = bytes[place];
            if (b >= 'a' && b <= 'z') {
                return scanWord(place);
            }
            if (b >= '0' && b <= '9') {
                return scanNumber(place);
            }
            return addToken(SIGNS.indexOf((char) b) >= 0 ? b : FAULTY, 0, place, place + 1);
        }

        private int scanWord(int place) {
            int end = place;
            while (end < size && bytes[end] >= 'a' && bytes[end] <= 'z') {
                end++;
            }
            for (int i = 0; i < SPELLINGS; i++) {
                if (isSpelled(spelling(i), place, end)) {
                    return addToken(i < NAMES ? NAME : HARD + i - NAMES, i, place, end);
                }
            }
            return addToken(FAULTY, 0, place, end);
        }

        private int scanNumber(int place) {
            int end = place;
            int value = 0;
            while (end < size && bytes[end] >= '0' && bytes[end] <= '9') {
                value = value * 10 + bytes[end] - '0';
                end++;
            }
            return addToken(end - place > MOST_DIGITS ? FAULTY : NUMBER, value, place, end);
        }

        private int addToken(int kind, int value, int place, int end) {
            if (tokens <= MOST_TAPE) {
                kinds[tokens] = kind;
                values[tokens] = value;
                places[tokens] = place;
                tokens++;
            }
            return end;
        }

        private boolean isSpelled(String word, int place, int end) {
            if (word.length() != end - place) {
                return false;
            }
            for (int i = 0; i < word.length(); i++) {
                if (bytes[place + i] != word.charAt(i)) {
                    return false;
                }
            }
            return true;
        }

        /** The NAMES, in the order of Judge's facts, then the KEYS, in the order of their kinds. */
        private static String spelling(int i) {
            switch (i) {
                case 0:
                    return "long";
                case 1:
                    return "vowels";
                case 2:
                    return "rules";
                case 3:
                    return "number";
                case 4:
                    return "word";
                case 5:
                    return "weight";
                case 6:
                    return "hard";
                case 7:
                    return "hides";
                case 8:
                    return "minds";
                case 9:
                    return "or";
                case 10:
                    return "and";
                default:
                    return "not";
            }
        }
    }

    /**
     * Reads a text, a method for each row of its grammar. Each answers the cell
     * that it made, or NONE; then the TOKEN that it stands at is the FAULT.
     */
    private static final class Parser {
        private Tape tape;
        private Text target;
        private int at;
        private int open;

        /** The place of the FAULT, or NONE. */
        int read(Tape from, Text to) {
            tape = from;
            target = to;
            at = 0;
            open = 0;
            from.scan();
            to.empty();
            boolean whole = readPart(Tape.HARD, Text.HARD) && readPart(Tape.HIDES, Text.HIDES)
                && readPart(Tape.MINDS, Text.MINDS) && next() == Tape.END;
            return whole ? NONE : place();
        }

        private int next() {
            return at < tape.tokens ? tape.kinds[at] : Tape.END;
        }

        private int place() {
            return at < tape.tokens ? tape.places[at] : tape.size;
        }

        private boolean take(int kind) {
            if (next() != kind) {
                return false;
            }
            at++;
            return true;
        }

        /** A ( , a not or a - ahead of a ONE, unless too many are open. */
        private boolean takeOpening() {
            if (open >= MOST_OPEN) {
                return false;
            }
            open++;
            at++;
            return true;
        }

        private boolean readPart(int key, int part) {
            if (!take(key) || readE() == NONE || !take(';')) {
                return false;
            }
            target.endPart(part);
            return true;
        }

        private int joined(int op, int left, int right) {
            return right == NONE ? NONE : target.add(op, left, right);
        }

        private int readE() {
            int cell = readAnd();
            for (int i = 0; i < MOST_TAPE && cell != NONE && take(Tape.OR); i++) {
                cell = joined(Text.OR, cell, readAnd());
            }
            return cell;
        }

        private int readAnd() {
            int cell = readNot();
            for (int i = 0; i < MOST_TAPE && cell != NONE && take(Tape.AND); i++) {
                cell = joined(Text.AND, cell, readNot());
            }
            return cell;
        }

        private int readNot() {
            if (next() != Tape.NOT) {
                return readComparison();
            }
            return takeOpening() ? closed(Text.NOT, readNot()) : NONE;
        }

        private int readComparison() {
            int cell = readSum();
            if (cell != NONE && take('<')) {
                return joined(Text.LESS, cell, readSum());
            }
            if (cell != NONE && take('=')) {
                return joined(Text.SAME, cell, readSum());
            }
            return cell;
        }

        private int readSum() {
            int cell = readTerm();
            for (int i = 0; i < MOST_TAPE && cell != NONE && (next() == '+' || next() == '-'); i++) {
                int op = next() == '+' ? Text.PLUS : Text.MINUS;
                at++;
                cell = joined(op, cell, readTerm());
            }
            return cell;
        }

        private int readTerm() {
            int cell = readOne();
            for (int i = 0; i < MOST_TAPE && cell != NONE && take('*'); i++) {
                cell = joined(Text.TIMES, cell, readOne());
            }
            return cell;
        }

        private int readOne() {
            switch (next()) {
                case Tape.NUMBER:
                    return readValue(Text.NUMBER);
                case Tape.NAME:
                    return readValue(Text.NAME);
                case '-':
                    return takeOpening() ? closed(Text.NEGATE, readOne()) : NONE;
                case '(':
                    return takeOpening() ? readToClosing() : NONE;
                default:
                    return NONE;
            }
        }

        private int readValue(int op) {
            int value = tape.values[at];
            at++;
            return target.add(op, value, 0);
        }

        private int closed(int op, int inner) {
            open--;
            return inner == NONE ? NONE : target.add(op, inner, 0);
        }

        private int readToClosing() {
            int cell = readE();
            if (cell == NONE || !take(')')) {
                return NONE;
            }
            open--;
            return cell;
        }
    }

    /** A row of numbers of a sort, or missing. */
    private static final class Sheet {
        final int[] items = new int[MOST_ITEMS];
        int sort = MISSING;
        int size;

        boolean isMissing() {
            return sort == MISSING;
        }

        void become(int newSort, int newSize) {
            sort = newSort;
            size = newSize;
            for (int i = 0; i < MOST_ITEMS; i++) {
                items[i] = 0;
            }
        }

        void becomeSaying(Saying saying) {
            become(BYTES, saying.size);
            System.arraycopy(saying.letters, 0, items, 0, saying.size);
        }

        void put(int i, int v) {
            switch (sort) {
                case BYTES:
                    items[i] = (byte) v;
                    break;
                case SHORTS:
                    items[i] = (short) v;
                    break;
                default:
                    items[i] = v;
                    break;
            }
        }

        /** Whether n items from i on lie inside; written so that no sum can wrap. */
        boolean holds(int i, int n) {
            return i >= 0 && n >= 0 && i <= size && n <= size - i;
        }

        boolean tellsWord() {
            if (size < 1 || size > MOST_WORD_LETTERS) {
                return false;
            }
            for (int i = 0; i < size; i++) {
                if (!isLetter(items[i])) {
                    return false;
                }
            }
            return true;
        }

        boolean tells(Saying saying) {
            if (saying.isTooLong() || saying.size != size) {
                return false;
            }
            for (int i = 0; i < size; i++) {
                if (items[i] != saying.letters[i]) {
                    return false;
                }
            }
            return true;
        }
    }
}
