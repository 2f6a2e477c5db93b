import java.util.Random;

/** Random runs of calls, each answer compared with the Model's. */
public final class ModelTest {
    private static final int[] ODD = {
        -1, -2, -100, 9, 26, 40, 41, 100, 160, 256, Integer.MIN_VALUE, Integer.MAX_VALUE, Integer.MAX_VALUE - 1};
    private final Random random;
    private final AfterEachVowel x = new AfterEachVowel();
    private final Model m = new Model();
    private final String run;
    private int calls = 0;

    private ModelTest(long seed) {
        random = new Random(seed);
        run = "run " + seed;
    }

    public static void main(String[] args) {
        for (long seed = 0; seed < 1200 && Due.wrong() == 0; seed++) {
            new ModelTest(seed).mixedRun();
        }
        for (long seed = 10_000; seed < 14_000 && Due.wrong() == 0; seed++) {
            new ModelTest(seed).textRun();
        }
        Due.end("ModelTest");
    }

    private void due(String call, long got, long want) {
        calls++;
        Due.is(run + ", call " + calls + ": " + call, got, want);
    }

    /** 0 .. most, now and then something else. */
    private int near(int most) {
        int dice = random.nextInt(40);
        if (dice == 0) {
            return ODD[random.nextInt(ODD.length)];
        }
        return dice == 1 ? most + 1 : random.nextInt(most + 1);
    }

    private void mixedRun() {
        int letters = 1 + random.nextInt(random.nextBoolean() ? 3 : 26);
        while (calls < 460) {
            int dice = random.nextInt(100);
            if (dice < 22) {
                learnSome(letters);
            } else if (dice < 34) {
                arrange();
            } else if (dice < 37) {
                readText(random.nextInt(20));
            } else if (dice < 60) {
                ask();
            } else if (dice < 90) {
                overhear();
            } else {
                host();
            }
        }
    }

    private void learnSome(int letters) {
        int sheet = near(3);
        int size = random.nextInt(8) == 0 ? random.nextInt(12) : 1 + random.nextInt(4);
        makeSheet(sheet, random.nextInt(3), size);
        for (int i = 0; i < size; i++) {
            setCell(sheet, i, random.nextInt(60) == 0 ? near(26) : random.nextInt(letters));
        }
        int weight = near(99);
        due("learn(" + sheet + ", " + weight + ")", x.learn(sheet, weight), m.learn(sheet, weight));
    }

    private void makeSheet(int sheet, int sort, int n) {
        due("sheet(" + sheet + ", " + sort + ", " + n + ")", x.sheet(sheet, sort, n), m.sheet(sheet, sort, n));
    }

    private void setCell(int sheet, int i, int v) {
        due("cell(" + sheet + ", " + i + ", " + v + ")", x.cell(sheet, i, v), m.cell(sheet, i, v));
    }

    private void arrange() {
        int a = near(5), b = near(25), c = near(25), w = near(7);
        switch (random.nextInt(10)) {
            case 0:
            case 1:
            case 2:
                due("rule(" + a + ", " + b + ", " + c + ")", x.rule(a, b, c), m.rule(a, b, c));
                break;
            case 3:
            case 4:
            case 5:
                int r = Math.max(-1, a - random.nextInt(4));
                due("then(" + r + ")", x.then(r), m.then(r));
                break;
            case 6:
                if (random.nextInt(3) == 0) {
                    due("clear()", x.clear(), m.clear());
                }
                break;
            case 7:
                int v = random.nextInt(3) == 0 ? near(0x3FFFFFF) : 1065233;
                due("set(0, " + a + ", " + v + ")", x.set(0, a, v), m.set(0, a, v));
                break;
            case 8:
                int what = near(4), of = near(3), to = what == 4 ? near(4) : near(25);
                due("set(" + what + ", " + of + ", " + to + ")", x.set(what, of, to), m.set(what, of, to));
                break;
            default:
                int t = near(20);
                due("told(" + w + ", " + t + ")", x.told(w, t), m.told(w, t));
                break;
        }
    }

    private void ask() {
        int w = near(3), r = near(3), k = near(12) - 1, what = near(4);
        switch (random.nextInt(12)) {
            case 0:
            case 1:
            case 2:
                due("said(" + w + ", " + k + ")", x.said(w, k), m.said(w, k));
                break;
            case 3:
                due("turned(" + w + ", " + r + ", " + k + ")", x.turned(w, r, k), m.turned(w, r, k));
                break;
            case 4:
            case 5:
            case 6:
                due("of(" + w + ", " + what + ")", x.of(w, what), m.of(w, what));
                break;
            case 7:
            case 8:
                due("all(" + what + ")", x.all(what), m.all(what));
                break;
            case 9:
                due("leave(" + (what - 1) + ")", x.leave(what - 1), m.leave(what - 1));
                break;
            case 10:
                if (m.rules.size() < 5 || random.nextInt(12) == 0) {
                    due("order(" + (what - 1) + ")", x.order(what - 1), m.order(what - 1));
                }
                break;
            default:
                due("letter(" + r + ", " + (what - 1) + ")", x.letter(r, what - 1), m.letter(r, what - 1));
                break;
        }
    }

    private void overhear() {
        int s = near(3), w = near(2), r = near(3), what = near(2), seed = random.nextInt();
        switch (random.nextInt(12)) {
            case 0:
            case 1:
                due("heard(" + s + ", " + what + ")", x.heard(s, what), m.heard(s, what));
                break;
            case 2:
                due("film(" + s + ", " + w + ")", x.film(s, w), m.film(s, w));
                due("heard(" + s + ", " + what + ")", x.heard(s, what), m.heard(s, what));
                break;
            case 3:
            case 4:
                due("film(" + s + ", " + w + ")", x.film(s, w), m.film(s, w));
                due("found(" + s + ", " + w + ", " + r + ", " + what + ")",
                    x.found(s, w, r, what), m.found(s, w, r, what));
                break;
            case 5:
                due("found(" + s + ", " + w + ", " + r + ", " + what + ")",
                    x.found(s, w, r, what), m.found(s, w, r, what));
                break;
            case 6:
                due("alikeTexts()", x.alikeTexts(), m.alikeTexts());
                break;
            case 7:
                due("drawn(" + seed + ")", x.drawn(seed), m.drawn(seed));
                break;
            case 8:
                int n = near(20);
                due("chance(" + seed + ", " + n + ", 0)", x.chance(seed, n, 0), m.chance(seed, n, 0));
                due("chance(" + seed + ", " + n + ", " + what + ")",
                    x.chance(seed, n, what), m.chance(seed, n, what));
                break;
            case 9:
                if (random.nextInt(3) == 0) {
                    due("image()", x.image(), m.image());
                }
                break;
            case 10:
                if (random.nextInt(4) == 0) {
                    due("back()", x.back(), m.back());
                }
                break;
            default:
                int c = near(5);
                due("count(" + c + ")", x.count(c), m.count(c));
                break;
        }
    }

    private void host() {
        int s = near(3), o = near(3), i = near(6), j = near(6), n = near(5), sort = near(3) - 1;
        switch (random.nextInt(6)) {
            case 0:
                int size = random.nextBoolean() ? near(40) : 18;
                makeSheet(s, sort, size);
                break;
            case 1:
                int v = random.nextInt(3) == 0 ? random.nextInt() : near(300);
                setCell(s, i, v);
                break;
            case 2:
            case 3:
                due("copy(" + s + ", " + i + ", " + o + ", " + j + ", " + n + ")",
                    x.copy(s, i, o, j, n), m.copy(s, i, o, j, n));
                break;
            case 4:
                due("rules(" + s + ", " + sort + ", " + i + ", " + n + ")",
                    x.rules(s, sort, i, n), m.rules(s, sort, i, n));
                break;
            default:
                due("taken(" + o + ", " + n + ")", x.taken(o, n), m.taken(o, n));
                break;
        }
    }

    // ---- texts

    private void textRun() {
        makeSheet(0, 0, 4);
        setCell(0, random.nextInt(4), 14);
        due("learn(0, 17)", x.learn(0, 17), m.learn(0, 17));
        makeSheet(0, 2, 2);
        due("learn(0, 60)", x.learn(0, 60), m.learn(0, 60));
        due("rule(5, 0, 11)", x.rule(5, 0, 11), m.rule(5, 0, 11));
        if (random.nextBoolean()) {
            due("then(0)", x.then(0), m.then(0));
        }
        while (calls < 330) {
            readText(random.nextInt(60));
            for (int what = 0; what < 3; what++) {
                due("of(0, " + what + ")", x.of(0, what), m.of(0, what));
                due("of(1, " + what + ")", x.of(1, what), m.of(1, what));
            }
            due("all(0)", x.all(0), m.all(0));
        }
    }

    private void readText(int size) {
        StringBuilder text = new StringBuilder();
        String[] keys = {"hard", "hides", "minds"};
        for (String key : keys) {
            text.append(gap()).append(key).append(' ').append(expression(size / 10)).append(gap()).append(';');
        }
        text.append(gap());
        spoil(text);
        for (int i = 0; i < text.length() && calls < 490; i++) {
            int b = text.charAt(i);
            due("feed(" + b + ")", x.feed(b), m.feed(b));
        }
        due("text() of " + m.tape, x.text(), m.text());
        int force = near(m.texts.size() - 1);
        due("force(" + force + ")", x.force(force), m.force(force));
    }

    private String gap() {
        String[] gaps = {"", "", "", " ", "\n", "  "};
        return gaps[random.nextInt(gaps.length)];
    }

    private String expression(int size) {
        String[] names = {"long", "vowels", "rules", "number", "word", "weight"};
        String[] signs = {"+", "-", "*", "<", "=", " or ", " and ", "+", "-", "*"};
        if (size <= 0 || random.nextInt(6) == 0) {
            return random.nextBoolean() ? names[random.nextInt(6)] : "" + random.nextInt(random.nextBoolean() ? 9 : 9999);
        }
        switch (random.nextInt(6)) {
            case 0:
                return "(" + gap() + expression(size - 1) + gap() + ")";
            case 1:
                return "-" + gap() + expression(size - 1);
            case 2:
                return "not " + expression(size - 1);
            default:
                return expression(size - 1) + gap() + signs[random.nextInt(signs.length)] + gap() + expression(size - 2);
        }
    }

    /** Half of the texts get one byte more, one less, another one, or lose their end. */
    private void spoil(StringBuilder text) {
        int at = random.nextInt(text.length());
        String bytes = "abcdnothirws0123456789();+-*<= \n\t.A\u00e9\u00ff\u0000";
        char any = bytes.charAt(random.nextInt(bytes.length()));
        switch (random.nextInt(8)) {
            case 0:
                text.insert(at, any);
                break;
            case 1:
                text.deleteCharAt(at);
                break;
            case 2:
                text.setCharAt(at, any);
                break;
            case 3:
                if (random.nextInt(3) == 0) {
                    text.setLength(at);
                }
                break;
            default:
                break;
        }
    }
}
