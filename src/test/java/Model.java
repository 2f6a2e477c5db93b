import java.util.ArrayList;
import java.util.Arrays;
import java.util.List;

/**
 * The document once more, by other means: lists, strings, exceptions, a class
 * for each KIND. It is slow and is only there to be compared with.
 */
final class Model {
    static final int NONE = -1, BAD = -2, STATE = -3, FULL = -4;
    static final long NO = -4611686018427387904L;
    static final String LAW = "hard long + vowels ; hides rules * 5 ; minds weight ;";

    // ---- kinds

    static class Plain {
        int letter, number;

        /** null: TOO LONG. */
        List<Integer> turn(List<Integer> letters, int vowels) {
            return new ArrayList<>(letters);
        }

        int hard(int v) {
            return v;
        }
    }

    static class After extends Plain {
        @Override
        List<Integer> turn(List<Integer> letters, int vowels) {
            List<Integer> turned = new ArrayList<>();
            for (int l : super.turn(letters, vowels)) {
                turned.add(l);
                if (isVowel(l, vowels)) {
                    turned.add(letter);
                }
            }
            return turned.size() > 40 ? null : turned;
        }

        @Override
        int hard(int v) {
            return super.hard(v) + 1;
        }
    }

    static class Shifted extends Plain {
        @Override
        List<Integer> turn(List<Integer> letters, int vowels) {
            List<Integer> turned = super.turn(letters, vowels);
            turned.replaceAll(l -> (l + number) % 26);
            return turned;
        }

        @Override
        int hard(int v) {
            return 2 * super.hard(v);
        }
    }

    static final class AtEnds extends After {
        @Override
        List<Integer> turn(List<Integer> letters, int vowels) {
            List<Integer> turned = super.turn(letters, vowels);
            if (turned == null) {
                return null;
            }
            turned.add(turned.get(0));
            return turned.size() > 40 ? null : turned;
        }
    }

    static final class VowelsAlone extends Shifted {
        @Override
        List<Integer> turn(List<Integer> letters, int vowels) {
            List<Integer> turned = super.turn(letters, vowels);
            for (int i = 0; i < letters.size(); i++) {
                if (!isVowel(letters.get(i), vowels)) {
                    turned.set(i, letters.get(i));
                }
            }
            return turned;
        }

        @Override
        int hard(int v) {
            return super.hard(v) / 2;
        }
    }

    static final class BackToFront extends Plain {
        @Override
        List<Integer> turn(List<Integer> letters, int vowels) {
            List<Integer> turned = super.turn(letters, vowels);
            java.util.Collections.reverse(turned);
            return turned;
        }

        @Override
        int hard(int v) {
            return super.hard(v) + number;
        }
    }

    static final Class<?>[] KIND = {
        Plain.class, After.class, Shifted.class, AtEnds.class, VowelsAlone.class, BackToFront.class};

    static boolean isVowel(int letter, int vowels) {
        return (vowels & 1 << letter) != 0;
    }

    static Plain make(int kind, int letter, int number) {
        Plain made;
        switch (kind) {
            case 0: made = new Plain(); break;
            case 1: made = new After(); break;
            case 2: made = new Shifted(); break;
            case 3: made = new AtEnds(); break;
            case 4: made = new VowelsAlone(); break;
            default: made = new BackToFront(); break;
        }
        made.letter = letter;
        made.number = number;
        return made;
    }

    static int kindOf(Plain rule) {
        return Arrays.asList(KIND).indexOf(rule.getClass());
    }

    // ---- texts: read anew, byte by byte, each time one is worked out

    static final class Fault extends RuntimeException {
        private static final long serialVersionUID = 1L;
        final int place;

        Fault(int place) {
            super(null, null, false, false);
            this.place = place;
        }
    }

    /** Works out a text while reading it; the names' values are given. */
    static final class Working {
        static final List<String> NAMES = List.of("long", "vowels", "rules", "number", "word", "weight");
        static final List<String> KEYS = List.of("hard", "hides", "minds", "or", "and", "not");
        final String text;
        final int[] facts;
        int from, to, open;

        Working(String text, int[] facts) {
            this.text = text;
            this.facts = facts;
        }

        String token() {
            from = to;
            while (from < text.length() && (text.charAt(from) == ' ' || text.charAt(from) == '\n')) {
                from++;
            }
            String rest = text.substring(from);
            if (rest.isEmpty()) {
                return "";
            }
            String word = rest.replaceFirst("(?s)[^a-z].*", "");
            String number = rest.replaceFirst("(?s)[^0-9].*", "");
            if (!word.isEmpty()) {
                return NAMES.contains(word) || KEYS.contains(word) ? word : "?";
            }
            if (!number.isEmpty()) {
                return number.length() > 4 ? "?" : number;
            }
            return "();+-*<=".indexOf(rest.charAt(0)) >= 0 ? rest.substring(0, 1) : "?";
        }

        boolean sees(String wanted) {
            return token().equals(wanted);
        }

        void eat() {
            String eaten = token();
            to = from + eaten.length();
        }

        Fault fault() {
            token();
            return new Fault(from);
        }

        void want(String wanted) {
            if (!sees(wanted)) {
                throw fault();
            }
            eat();
        }

        int[] all() {
            int[] told = new int[3];
            for (int part = 0; part < 3; part++) {
                want(KEYS.get(part));
                told[part] = e();
                want(";");
            }
            want("");
            return told;
        }

        int e() {
            int v = and();
            while (sees("or")) {
                eat();
                int w = and();
                v = v != 0 | w != 0 ? 1 : 0;
            }
            return v;
        }

        int and() {
            int v = not();
            while (sees("and")) {
                eat();
                int w = not();
                v = v != 0 & w != 0 ? 1 : 0;
            }
            return v;
        }

        void opens() {
            if (open == 5) {
                throw fault();
            }
            open++;
            eat();
        }

        int not() {
            if (sees("not")) {
                opens();
                int v = not();
                open--;
                return v == 0 ? 1 : 0;
            }
            int v = sum();
            if (sees("<")) {
                eat();
                return v < sum() ? 1 : 0;
            }
            if (sees("=")) {
                eat();
                return v == sum() ? 1 : 0;
            }
            return v;
        }

        int sum() {
            int v = term();
            while (sees("+") || sees("-")) {
                boolean plus = sees("+");
                eat();
                int w = term();
                v = plus ? v + w : v - w;
            }
            return v;
        }

        int term() {
            int v = one();
            while (sees("*")) {
                eat();
                v *= one();
            }
            return v;
        }

        int one() {
            String t = token();
            if (NAMES.contains(t)) {
                eat();
                return facts[NAMES.indexOf(t)];
            }
            if (!t.isEmpty() && Character.isDigit(t.charAt(0))) {
                eat();
                return Integer.parseInt(t);
            }
            if (t.equals("-")) {
                opens();
                int v = one();
                open--;
                return -v;
            }
            if (t.equals("(")) {
                opens();
                int v = e();
                want(")");
                open--;
                return v;
            }
            throw fault();
        }
    }

    // ---- the state

    static final class Word {
        List<Integer> letters = new ArrayList<>();
        int weight;
    }

    int vowels = 1065233;
    List<Word> words = new ArrayList<>();
    List<Plain> rules = new ArrayList<>();
    List<Integer> row = new ArrayList<>();
    final List<String> texts = new ArrayList<>(List.of(LAW));
    int law = 0;
    String tape = "";
    final Object[] sheets = new Object[4];
    Model image;

    static boolean in(int v, int least, int most) {
        return v >= least && v <= most;
    }

    boolean word(int w) {
        return in(w, 0, words.size() - 1);
    }

    boolean hasRule(int r) {
        return in(r, 0, rules.size() - 1);
    }

    Model kept() {
        Model m = new Model();
        m.vowels = vowels;
        for (Word w : words) {
            Word c = new Word();
            c.letters = new ArrayList<>(w.letters);
            c.weight = w.weight;
            m.words.add(c);
        }
        for (Plain r : rules) {
            m.rules.add(make(kindOf(r), r.letter, r.number));
        }
        m.row = new ArrayList<>(row);
        m.texts.clear();
        m.texts.addAll(texts);
        m.law = law;
        return m;
    }

    /** The numbers of a sheet, of any sort. */
    static List<Integer> numbers(Object sheet) {
        List<Integer> all = new ArrayList<>();
        for (int i = 0; i < java.lang.reflect.Array.getLength(sheet); i++) {
            all.add(java.lang.reflect.Array.getInt(sheet, i));
        }
        return all;
    }

    // ---- words, rules, the row

    int learn(int sheet, int weight) {
        if (!in(sheet, 0, 3) || !in(weight, 0, 99)) {
            return BAD;
        }
        if (sheets[sheet] == null) {
            return -11;
        }
        Word w = new Word();
        w.letters = numbers(sheets[sheet]);
        w.weight = weight;
        if (!in(w.letters.size(), 1, 10) || w.letters.stream().anyMatch(l -> !in(l, 0, 25))) {
            return BAD;
        }
        if (words.size() >= 8) {
            return FULL;
        }
        words.add(w);
        return words.size() - 1;
    }

    int rule(int kind, int letter, int number) {
        if (!in(kind, 0, 5) || !in(letter, 0, 25) || !in(number, 0, 25)) {
            return BAD;
        }
        if (rules.size() >= 6) {
            return FULL;
        }
        rules.add(make(kind, letter, number));
        return rules.size() - 1;
    }

    int then(int rule) {
        if (!hasRule(rule)) {
            return BAD;
        }
        if (row.size() >= 8) {
            return FULL;
        }
        row.add(rule);
        return row.size();
    }

    int clear() {
        int had = row.size();
        row.clear();
        return had;
    }

    int set(int what, int of, int v) {
        int was = in(what, 0, 4) ? told(of, what) : -100;
        if (was == -100) {
            return -100;
        }
        switch (what) {
            case 0:
                if (!in(v, 0, 0x3FFFFFF)) {
                    return -100;
                }
                vowels = v;
                return was;
            case 1:
                if (!in(v, 0, 99)) {
                    return -100;
                }
                words.get(of).weight = v;
                return was;
            case 2:
                if (!in(v, 0, 25)) {
                    return -100;
                }
                rules.get(of).letter = v;
                return was;
            case 3:
                if (!in(v, 0, 25)) {
                    return -100;
                }
                rules.get(of).number = v;
                return was;
            default:
                return hasRule(v) ? row.set(of, v) : -100;
        }
    }

    int told(int of, int what) {
        try {
            if (what == 0) {
                return vowels;
            } else if (what == 1) {
                return words.get(of).weight;
            } else if (what == 2) {
                return rules.get(of).letter;
            } else if (what == 3) {
                return rules.get(of).number;
            } else if (what == 4) {
                return row.get(of);
            } else if (what == 5) {
                return kindOf(rules.get(of));
            } else if (what == 6) {
                return words.get(of).letters.size();
            } else if (in(what, 10, 19)) {
                List<Integer> letters = words.get(of).letters;
                return what - 10 < letters.size() ? letters.get(what - 10) : NONE;
            }
            return -100;
        } catch (IndexOutOfBoundsException e) {
            return -100;
        }
    }

    // ---- texts

    int feed(int letter) {
        if (!in(letter, 0, 255)) {
            return BAD;
        }
        if (tape.length() >= 160) {
            return FULL;
        }
        tape += (char) letter;
        return tape.length();
    }

    int text() {
        if (texts.size() >= 6) {
            return FULL;
        }
        String read = tape;
        tape = "";
        try {
            new Working(read, new int[6]).all();
        } catch (Fault fault) {
            return -100 - fault.place;
        }
        texts.add(read);
        return texts.size() - 1;
    }

    int force(int text) {
        if (!in(text, 0, texts.size() - 1)) {
            return BAD;
        }
        int was = law;
        law = text;
        return was;
    }

    // ---- what is said

    List<Integer> turnedBy(List<Integer> letters, List<Integer> by) {
        List<Integer> turned = letters;
        for (int r : by) {
            turned = turned == null ? null : rules.get(r).turn(turned, vowels);
        }
        return turned;
    }

    List<Integer> sayingOf(int word) {
        return turnedBy(words.get(word).letters, row);
    }

    static int answer(List<Integer> saying, int k) {
        if (saying == null) {
            return STATE;
        }
        return k == NONE ? saying.size() : k < saying.size() ? saying.get(k) : NONE;
    }

    int said(int word, int k) {
        return word(word) && in(k, -1, 39) ? answer(sayingOf(word), k) : BAD;
    }

    int turned(int word, int rule, int k) {
        if (!word(word) || !hasRule(rule) || !in(k, -1, 39)) {
            return BAD;
        }
        return answer(turnedBy(words.get(word).letters, List.of(rule)), k);
    }

    /** hard, hides, minds of a word that is said so, as the law's text tells. */
    int[] judged(int word, List<Integer> saying) {
        int last = row.isEmpty() ? -1 : row.get(row.size() - 1);
        int[] facts = {saying.size(), (int) saying.stream().filter(l -> isVowel(l, vowels)).count(),
            row.size(), last < 0 ? 0 : rules.get(last).number, word, words.get(word).weight};
        int[] told = new Working(texts.get(law), facts).all();
        for (int i = 0; i < 3; i++) {
            told[i] = told[i] < 0 ? 0 : told[i] > 99 ? 99 : told[i];
        }
        if (last >= 0) {
            told[0] = Math.max(0, rules.get(last).hard(told[0]));
        }
        return told;
    }

    int of(int word, int what) {
        if (!word(word) || !in(what, 0, 4)) {
            return BAD;
        }
        if (what == 3) {
            List<Integer> letters = words.get(word).letters;
            for (int n = 1; n <= 60 && letters != null; n++) {
                letters = turnedBy(letters, row);
                if (words.get(word).letters.equals(letters)) {
                    return n;
                }
            }
            return NONE;
        }
        if (what == 4) {
            return safe(word);
        }
        List<Integer> saying = sayingOf(word);
        return saying == null ? 0 : judged(word, saying)[what];
    }

    int safe(int word) {
        int bits = 0;
        for (int i = 0; i < words.get(word).letters.size(); i++) {
            boolean safe = true;
            for (int letter = 0; letter < 26; letter++) {
                Model m = kept();
                if (m.words.get(word).letters.set(i, letter) != letter && (m.alike() & 1 << word) != 0) {
                    safe = false;
                }
            }
            bits |= safe ? 1 << i : 0;
        }
        return bits;
    }

    int alike() {
        int bits = 0;
        for (int w = 0; w < words.size(); w++) {
            for (int o = 0; o < words.size(); o++) {
                if (w != o && sayingOf(w) != null && sayingOf(w).equals(sayingOf(o))) {
                    bits |= 1 << w;
                }
            }
        }
        return bits;
    }

    int worth() {
        int worth = 0;
        int alike = alike();
        for (int w = 0; w < words.size(); w++) {
            List<Integer> saying = sayingOf(w);
            if (saying != null) {
                int[] told = judged(w, saying);
                worth += told[1] - told[0] - ((alike & 1 << w) != 0 ? told[2] : 0);
            }
        }
        return worth;
    }

    int apart() {
        int least = Integer.MAX_VALUE;
        for (int w = 0; w < words.size(); w++) {
            for (int o = 0; o < w; o++) {
                List<Integer> a = sayingOf(w), b = sayingOf(o);
                if (a != null && b != null && a.size() == b.size()) {
                    int d = 0;
                    for (int i = 0; i < a.size(); i++) {
                        d += a.get(i).equals(b.get(i)) ? 0 : 1;
                    }
                    least = Math.min(least, d);
                }
            }
        }
        return least == Integer.MAX_VALUE ? NONE : least;
    }

    int all(int what) {
        int bits = 0;
        switch (what) {
            case 0:
                return worth();
            case 1:
                return alike();
            case 2:
                return apart();
            case 3:
                for (int r = 0; r < rules.size(); r++) {
                    boolean idle = true;
                    for (Word w : words) {
                        idle &= w.letters.equals(turnedBy(w.letters, List.of(r)));
                    }
                    bits |= idle ? 1 << r : 0;
                }
                return bits;
            case 4:
                for (int w = 0; w < words.size(); w++) {
                    bits |= sayingOf(w) == null ? 1 << w : 0;
                }
                return bits;
            default:
                return -100000;
        }
    }

    // ---- what would be best

    int worthOf(List<Integer> supposed) {
        List<Integer> own = row;
        row = supposed;
        int worth = worth();
        row = own;
        return worth;
    }

    int leave(int what) {
        if (!in(what, 0, 1)) {
            return -100000;
        }
        int best = NONE;
        int most = worth();
        for (int place = 0; place < row.size(); place++) {
            List<Integer> shorter = new ArrayList<>(row);
            shorter.remove(place);
            if (worthOf(shorter) > most) {
                most = worthOf(shorter);
                best = place;
            }
        }
        return what == 0 ? best : most;
    }

    static void ways(List<Integer> begun, int m, List<List<Integer>> all) {
        if (begun.size() == m) {
            all.add(begun);
        }
        for (int r = 0; r < m; r++) {
            if (!begun.contains(r)) {
                List<Integer> longer = new ArrayList<>(begun);
                longer.add(r);
                ways(longer, m, all);
            }
        }
    }

    int order(int what) {
        if (!in(what, 0, 1)) {
            return -100000;
        }
        List<List<Integer>> all = new ArrayList<>();
        ways(List.of(), rules.size(), all);
        List<Integer> best = null;
        for (List<Integer> way : all) {
            if (best == null || worthOf(way) > worthOf(best)) {
                best = way;
            }
        }
        if (what == 0) {
            return worthOf(best);
        }
        StringBuilder digits = new StringBuilder("0");
        for (int r : best) {
            digits.append(r + 1);
        }
        return Integer.parseInt(digits.toString());
    }

    int letter(int rule, int what) {
        if (!in(what, 0, 1) || !hasRule(rule)) {
            return -100000;
        }
        int best = NONE;
        int most = Integer.MIN_VALUE;
        for (int letter = 0; letter < 26; letter++) {
            Model m = kept();
            m.rules.get(rule).letter = letter;
            if (m.worth() > most) {
                most = m.worth();
                best = letter;
            }
        }
        return what == 0 ? best : most;
    }

    // ---- what was overheard

    int heard(int sheet, int what) {
        if (!in(sheet, 0, 3) || !in(what, 0, 2)) {
            return BAD;
        }
        if (sheets[sheet] == null) {
            return -11;
        }
        List<Integer> told = numbers(sheets[sheet]);
        int saidSo = 0, byRules = 0, pairs = 0;
        for (int w = 0; w < words.size(); w++) {
            saidSo |= told.equals(sayingOf(w)) ? 1 << w : 0;
            for (int r = 0; r < rules.size(); r++) {
                if (told.equals(turnedBy(words.get(w).letters, List.of(r)))) {
                    byRules |= 1 << r;
                    pairs++;
                }
            }
        }
        return what == 0 ? saidSo : what == 1 ? byRules : pairs;
    }

    int found(int sheet, int word, int rule, int what) {
        if (!in(sheet, 0, 3) || !word(word) || !hasRule(rule) || !in(what, 0, 2)) {
            return BAD;
        }
        if (sheets[sheet] == null) {
            return -11;
        }
        List<Integer> told = numbers(sheets[sheet]);
        int bits = 0;
        for (int v = 0; v < (what == 2 ? 6 : 26); v++) {
            Model m = kept();
            Plain r = m.rules.get(rule);
            if (what == 0) {
                r.letter = v;
            } else if (what == 1) {
                r.number = v;
            } else {
                m.rules.set(rule, make(v, r.letter, r.number));
            }
            bits |= told.equals(m.sayingOf(word)) ? 1 << v : 0;
        }
        return bits;
    }

    int alikeTexts() {
        int bits = 0;
        for (int t = 0; t < texts.size(); t++) {
            Model m = kept();
            m.law = t;
            bits |= m.worth() == worth() ? 1 << t : 0;
        }
        return bits;
    }

    int film(int sheet, int word) {
        if (!in(sheet, 0, 3) || !word(word)) {
            return BAD;
        }
        List<Integer> saying = sayingOf(word);
        if (saying == null) {
            return STATE;
        }
        byte[] bytes = new byte[saying.size()];
        for (int i = 0; i < bytes.length; i++) {
            bytes[i] = saying.get(i).byteValue();
        }
        sheets[sheet] = bytes;
        return bytes.length;
    }

    List<Integer> drawnRow(int seed) {
        List<Integer> drawn = new ArrayList<>();
        int z = seed * 1103515245 + 12345;
        int k = 1 + (z >>> 9) % 4;
        while (!rules.isEmpty() && drawn.size() < k) {
            z = z * 1103515245 + 12345;
            drawn.add((z >>> 9) % rules.size());
        }
        return drawn;
    }

    int drawn(int seed) {
        return worthOf(drawnRow(seed));
    }

    long chance(int seed, int n, int part) {
        if (!in(n, 1, 20) || !in(part, 0, 1)) {
            return NO;
        }
        int good = 0;
        for (int i = 0; i < n; i++) {
            Model m = kept();
            m.row = drawnRow(seed + i);
            good += m.alike() == 0 ? 1 : 0;
        }
        int gcd = java.math.BigInteger.valueOf(good).gcd(java.math.BigInteger.valueOf(n)).intValue();
        return (part == 0 ? good : n) / gcd;
    }

    int image() {
        image = kept();
        return words.size();
    }

    int back() {
        if (image == null) {
            return STATE;
        }
        Model m = image.kept();
        vowels = m.vowels;
        words = m.words;
        rules = m.rules;
        row = m.row;
        law = m.law;
        return words.size();
    }

    int count(int what) {
        int[] counts = {words.size(), rules.size(), row.size(), texts.size(), tape.length(), law};
        return in(what, 0, 5) ? counts[what] : BAD;
    }

    // ---- the host: here the machine itself finds what is wrong

    int sheet(int sheet, int sort, int n) {
        if (!in(sheet, 0, 3) || !in(sort, -1, 2) || sort != -1 && n > 40) {
            return BAD;
        }
        try {
            sheets[sheet] = sort == -1 ? null : sort == 0 ? new byte[n] : sort == 1 ? new short[n] : new int[n];
            return 1;
        } catch (NegativeArraySizeException e) {
            return -14;
        }
    }

    int cell(int sheet, int i, int v) {
        if (!in(sheet, 0, 3)) {
            return BAD;
        }
        try {
            if (sheets[sheet] instanceof byte[]) {
                ((byte[]) sheets[sheet])[i] = (byte) v;
            } else if (sheets[sheet] instanceof short[]) {
                ((short[]) sheets[sheet])[i] = (short) v;
            } else {
                ((int[]) sheets[sheet])[i] = v;
            }
            return 1;
        } catch (NullPointerException e) {
            return -11;
        } catch (ArrayIndexOutOfBoundsException e) {
            return -12;
        }
    }

    int copy(int sheet, int i, int other, int j, int n) {
        if (!in(sheet, 0, 3) || !in(other, 0, 3)) {
            return BAD;
        }
        try {
            System.arraycopy(sheets[sheet], i, sheets[other], j, n);
            return n;
        } catch (NullPointerException e) {
            return -11;
        } catch (ArrayStoreException e) {
            return -13;
        } catch (IndexOutOfBoundsException e) {
            return -12;
        }
    }

    int rules(int sheet, int sort, int from, int n) {
        if (!in(sheet, 0, 3) || !in(sort, 0, 2) || !in(n, 0, 6)) {
            return BAD;
        }
        Class<?>[] sorts = {byte[].class, short[].class, int[].class};
        int came = 0;
        try {
            List<Integer> all = numbers(sorts[sort].cast(sheets[sheet]));
            for (int i = 0; i < n; i++) {
                int at = from + 3 * i;
                came += rule(all.get(at), all.get(at + 1), all.get(at + 2)) >= 0 ? 1 : 0;
            }
            return came;
        } catch (ClassCastException e) {
            return -13;
        } catch (NullPointerException e) {
            return -11;
        } catch (IndexOutOfBoundsException e) {
            return -12;
        }
    }

    int taken(int rule, int k) {
        if (!in(k, 0, 5)) {
            return BAD;
        }
        if (!hasRule(rule)) {
            return -11;
        }
        return KIND[k].isInstance(rules.get(rule)) ? rules.get(rule).number : -13;
    }
}
