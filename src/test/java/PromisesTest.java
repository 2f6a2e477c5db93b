/** Each promise: ordinary inputs, the edges that the document names, wrong inputs. */
public final class PromisesTest {
    private static final int NONE = -1, BAD = -2, STATE = -3, FULL = -4;
    private static final int FIRST_VOWELS = 1065233;
    private static int promise;

    private PromisesTest() {
    }

    public static void main(String[] args) {
        promise1();
        promise2();
        promise3();
        promise4();
        promise5();
        promise6();
        promise7();
        promise8();
        promise9();
        promise9Faults();
        promise9Nesting();
        promise9Values();
        promise9Dense();
        promise10();
        promise11();
        promise12();
        promise13();
        promise13Hard();
        promise13Round();
        promise13Safe();
        promise14();
        promise15();
        promise16();
        promise17();
        promise18();
        promise19();
        promise20();
        promise21();
        promise22();
        promise23();
        promise24And25();
        promise26();
        promise27();
        promise28();
        promise29();
        promise30();
        promise31();
        Due.end("PromisesTest");
    }

    private static void due(String call, long got, long want) {
        Due.is("promise " + promise + ": " + call, got, want);
    }

    private static AfterEachVowel begin(int number) {
        promise = number;
        return new AfterEachVowel();
    }

    /** A word as letters a .. z, by sheet 3. */
    private static int learn(AfterEachVowel x, String word, int weight) {
        put(x, 3, word);
        return x.learn(3, weight);
    }

    private static void put(AfterEachVowel x, int sheet, String letters) {
        x.sheet(sheet, 0, letters.length());
        for (int i = 0; i < letters.length(); i++) {
            x.cell(sheet, i, letters.charAt(i) - 'a');
        }
    }

    private static void putNumbers(AfterEachVowel x, int sheet, int sort, int... numbers) {
        x.sheet(sheet, sort, numbers.length);
        for (int i = 0; i < numbers.length; i++) {
            x.cell(sheet, i, numbers[i]);
        }
    }

    private static int read(AfterEachVowel x, String text) {
        for (int i = 0; i < text.length(); i++) {
            x.feed(text.charAt(i));
        }
        return x.text();
    }

    /** What a word is said as, for comparing; - for TOO LONG. */
    private static String saying(AfterEachVowel x, int word) {
        int size = x.said(word, NONE);
        StringBuilder letters = new StringBuilder();
        for (int i = 0; i < size; i++) {
            letters.append((char) ('a' + x.said(word, i)));
        }
        return size == STATE ? "-" : letters.toString();
    }

    private static String turning(AfterEachVowel x, int word, int rule) {
        int size = x.turned(word, rule, NONE);
        StringBuilder letters = new StringBuilder();
        for (int i = 0; i < size; i++) {
            letters.append((char) ('a' + x.turned(word, rule, i)));
        }
        return letters.toString();
    }

    private static void same(String what, String got, String want) {
        Due.holds("promise " + promise + ": " + what + ": " + got + ", due is " + want, got.equals(want));
    }

    private static void promise1() {
        AfterEachVowel x = begin(1);
        due("count(0)", x.count(0), 0);
        due("count(1)", x.count(1), 0);
        due("count(2)", x.count(2), 0);
        due("count(3)", x.count(3), 1);
        due("count(4)", x.count(4), 0);
        due("count(5)", x.count(5), 0);
        due("told(0, 0)", x.told(0, 0), FIRST_VOWELS);
        due("back()", x.back(), STATE);
        for (int sheet = 0; sheet < 4; sheet++) {
            due("cell of a sheet that is missing", x.cell(sheet, 0, 0), -11);
        }
        due("NONE", AfterEachVowel.NONE, -1);
        due("BAD", AfterEachVowel.BAD, -2);
        due("STATE", AfterEachVowel.STATE, -3);
        due("FULL", AfterEachVowel.FULL, -4);
        due("NO", AfterEachVowel.NO, -4611686018427387904L);
        AfterEachVowel other = new AfterEachVowel();
        x.rule(0, 0, 0);
        due("count(1) of another object", other.count(1), 0);
    }

    private static void promise2() {
        AfterEachVowel x = begin(2);
        due("learn(-1, 0)", x.learn(-1, 0), BAD);
        due("learn(4, 0)", x.learn(4, 0), BAD);
        due("learn(0, 100), missing", x.learn(0, 100), BAD);
        due("learn(0, -1), missing", x.learn(0, -1), BAD);
        due("learn(0, 0), missing", x.learn(0, 0), -11);
        x.sheet(0, 0, 0);
        due("learn of none", x.learn(0, 0), BAD);
        x.sheet(0, 0, 11);
        due("learn of eleven", x.learn(0, 0), BAD);
        x.sheet(0, 2, 10);
        due("learn of ten", x.learn(0, 99), 0);
        putNumbers(x, 0, 1, 0, 25);
        due("learn of a and z", x.learn(0, 0), 1);
        due("told(1, 11)", x.told(1, 11), 25);
        putNumbers(x, 0, 1, 0, 26);
        due("learn of 26", x.learn(0, 0), BAD);
        putNumbers(x, 0, 2, -1);
        due("learn of -1", x.learn(0, 0), BAD);
        putNumbers(x, 0, 0, 256);
        due("learn of a byte 256, which is 0", x.learn(0, 0), 2);
        putNumbers(x, 0, 1, 256);
        due("learn of a short 256", x.learn(0, 0), BAD);
        due("count(0)", x.count(0), 3);
        putNumbers(x, 0, 0, 7);
        for (int word = 3; word < 8; word++) {
            due("learn", x.learn(0, word), word);
        }
        due("the ninth", x.learn(0, 0), FULL);
        due("the ninth, of wrong weight", x.learn(0, 100), BAD);
        due("the ninth, by a missing sheet", x.learn(1, 0), -11);
        x.cell(0, 0, 26);
        due("the ninth, of what is no letter", x.learn(0, 0), BAD);
        due("count(0)", x.count(0), 8);
        x.cell(0, 0, 3);
        due("a word does not change with its sheet", x.told(7, 10), 7);
    }

    private static void promise3() {
        AfterEachVowel x = begin(3);
        due("rule(-1, 0, 0)", x.rule(-1, 0, 0), BAD);
        due("rule(6, 0, 0)", x.rule(6, 0, 0), BAD);
        due("rule(0, -1, 0)", x.rule(0, -1, 0), BAD);
        due("rule(0, 26, 0)", x.rule(0, 26, 0), BAD);
        due("rule(0, 0, -1)", x.rule(0, 0, -1), BAD);
        due("rule(0, 0, 26)", x.rule(0, 0, 26), BAD);
        for (int kind = 0; kind < 6; kind++) {
            due("rule", x.rule(kind, 25 - kind, kind == 3 ? 25 : kind), kind);
        }
        due("told(3, 5)", x.told(3, 5), 3);
        due("told(3, 2)", x.told(3, 2), 22);
        due("told(3, 3)", x.told(3, 3), 25);
        due("the seventh", x.rule(0, 0, 0), FULL);
        due("the seventh, wrong", x.rule(0, 0, 26), BAD);
        due("count(1)", x.count(1), 6);
    }

    private static void promise4() {
        AfterEachVowel x = begin(4);
        due("then(0)", x.then(0), BAD);
        x.rule(0, 0, 0);
        x.rule(1, 0, 0);
        due("then(-1)", x.then(-1), BAD);
        due("then(2)", x.then(2), BAD);
        for (int i = 0; i < 8; i++) {
            due("then", x.then(i % 2), i + 1);
        }
        due("the ninth", x.then(0), FULL);
        due("the ninth, no such rule", x.then(2), BAD);
        due("told(6, 4)", x.told(6, 4), 0);
        due("told(7, 4)", x.told(7, 4), 1);
        due("count(2)", x.count(2), 8);
    }

    private static void promise5() {
        AfterEachVowel x = begin(5);
        due("clear() of none", x.clear(), 0);
        x.rule(5, 0, 0);
        learn(x, "ab", 0);
        x.then(0);
        x.then(0);
        x.then(0);
        same("said", saying(x, 0), "ba");
        due("clear()", x.clear(), 3);
        due("count(2)", x.count(2), 0);
        due("count(1)", x.count(1), 1);
        same("said", saying(x, 0), "ab");
        due("then(0)", x.then(0), 1);
    }

    private static void promise6() {
        AfterEachVowel x = begin(6);
        due("set(0, -7, 0)", x.set(0, -7, 0), FIRST_VOWELS);
        due("set(0, 99, 67108863)", x.set(0, 99, 67108863), 0);
        due("set(0, 0, 67108864)", x.set(0, 0, 67108864), -100);
        due("set(0, 0, -1)", x.set(0, 0, -1), -100);
        due("told(0, 0)", x.told(0, 0), 67108863);
        due("set(1, 0, 0)", x.set(1, 0, 0), -100);
        due("set(2, 0, 0)", x.set(2, 0, 0), -100);
        due("set(3, 0, 0)", x.set(3, 0, 0), -100);
        due("set(4, 0, 0)", x.set(4, 0, 0), -100);
        learn(x, "a", 7);
        x.rule(1, 2, 3);
        due("set(4, 0, 0), empty row", x.set(4, 0, 0), -100);
        x.rule(5, 24, 25);
        x.then(0);
        due("set(1, 0, 99)", x.set(1, 0, 99), 7);
        due("set(1, 0, 0)", x.set(1, 0, 0), 99);
        due("set(1, 0, 100)", x.set(1, 0, 100), -100);
        due("set(1, 0, -1)", x.set(1, 0, -1), -100);
        due("set(1, 1, 0)", x.set(1, 1, 0), -100);
        due("set(2, 0, 25)", x.set(2, 0, 25), 2);
        due("set(2, 0, 26)", x.set(2, 0, 26), -100);
        due("set(2, -1, 0)", x.set(2, -1, 0), -100);
        due("set(3, 1, 0)", x.set(3, 1, 0), 25);
        due("set(3, 1, -1)", x.set(3, 1, -1), -100);
        due("set(3, 2, 0)", x.set(3, 2, 0), -100);
        due("set(4, 0, 1)", x.set(4, 0, 1), 0);
        due("set(4, 0, 2)", x.set(4, 0, 2), -100);
        due("set(4, 1, 0)", x.set(4, 1, 0), -100);
        due("set(4, -1, 0)", x.set(4, -1, 0), -100);
        due("set(5, 0, 0)", x.set(5, 0, 0), -100);
        due("set(-1, 0, 0)", x.set(-1, 0, 0), -100);
        due("told(0, 1)", x.told(0, 1), 0);
        due("told(0, 2)", x.told(0, 2), 25);
        due("told(0, 3)", x.told(0, 3), 3);
        due("told(1, 2)", x.told(1, 2), 24);
        due("told(1, 3)", x.told(1, 3), 0);
        due("told(0, 4)", x.told(0, 4), 1);
        AfterEachVowel y = begin(6);
        learn(y, "abc", 0);
        y.rule(1, 25, 0);
        y.then(0);
        y.set(0, 0, 2);
        same("with b as the vowel", saying(y, 0), "abzc");
        y.set(2, 0, 24);
        same("with y after it", saying(y, 0), "abyc");
    }

    private static void promise7() {
        AfterEachVowel x = begin(7);
        for (int what = 1; what < 20; what++) {
            due("told(0, " + what + ") of nothing", x.told(0, what), -100);
        }
        learn(x, "xyzxyzxyza", 42);
        learn(x, "q", 3);
        x.rule(4, 5, 6);
        x.then(0);
        due("told(-5, 0)", x.told(-5, 0), FIRST_VOWELS);
        due("told(1, 1)", x.told(1, 1), 3);
        due("told(0, 2)", x.told(0, 2), 5);
        due("told(0, 3)", x.told(0, 3), 6);
        due("told(0, 4)", x.told(0, 4), 0);
        due("told(0, 5)", x.told(0, 5), 4);
        due("told(0, 6)", x.told(0, 6), 10);
        due("told(1, 6)", x.told(1, 6), 1);
        due("told(0, 10)", x.told(0, 10), 23);
        due("told(0, 19)", x.told(0, 19), 0);
        due("told(1, 10)", x.told(1, 10), 16);
        due("told(1, 11)", x.told(1, 11), NONE);
        due("told(1, 19)", x.told(1, 19), NONE);
        int[] wrong = {-1, 7, 8, 9, 20, Integer.MIN_VALUE, Integer.MAX_VALUE};
        for (int what : wrong) {
            due("told(0, " + what + ")", x.told(0, what), -100);
        }
        for (int what = 1; what < 20; what++) {
            due("told(2, " + what + ")", x.told(2, what), -100);
            due("told(-1, " + what + ")", x.told(-1, what), -100);
        }
    }

    private static void promise8() {
        AfterEachVowel x = begin(8);
        due("feed(-1)", x.feed(-1), BAD);
        due("feed(256)", x.feed(256), BAD);
        due("feed(0)", x.feed(0), 1);
        due("feed(255)", x.feed(255), 2);
        for (int i = 2; i < 160; i++) {
            due("feed(32)", x.feed(32), i + 1);
        }
        due("feed(32), full", x.feed(32), FULL);
        due("feed(256), full", x.feed(256), BAD);
        due("count(4)", x.count(4), 160);
    }

    private static void promise9() {
        AfterEachVowel x = begin(9);
        due("an empty tape", x.text(), -100);
        for (int text = 1; text < 6; text++) {
            due("text", read(x, "hard 1;hides 2;minds " + text + ";"), text);
            due("count(4)", x.count(4), 0);
            due("a faulty one", read(x, "hard ;"), x.count(3) == 6 ? FULL : -105);
        }
        due("count(4), full", x.count(4), 6);
        due("text(), full", x.text(), FULL);
        due("count(4), full", x.count(4), 6);
        due("count(3)", x.count(3), 6);
        AfterEachVowel y = begin(9);
        StringBuilder longest = new StringBuilder("hard 1+-(2)\n*3;hides 0;minds 0;");
        while (longest.length() < 160) {
            longest.append(longest.length() % 2 == 0 ? ' ' : '\n');
        }
        due("160 bytes", read(y, longest.toString()), 1);
        due("blanks ahead", read(y, " \n hard 1;hides 0;minds 0;"), 2);
        due("a fault empties the tape", read(y, "hard 1 ?"), -107);
        due("count(4)", y.count(4), 0);
        due("count(3)", y.count(3), 3);
    }

    private static void fault(String text, int place) {
        AfterEachVowel x = new AfterEachVowel();
        due("text() of " + text, read(x, text), place == NONE ? 1 : -100 - place);
    }

    private static void promise9Faults() {
        begin(9);
        fault("hides 1;", 0);
        fault("  hard", 6);
        fault("hard ", 5);
        fault("hard 1", 6);
        fault("hard 1  ", 8);
        fault("hard 1;", 7);
        fault("hard 1;hides 1;minds 1", 22);
        fault("hard 1;hides 1;minds 1; ;", 24);
        fault("hard 1;hides 1;minds 1; hard", 24);
        fault("hard 1;minds 1;hides 1;", 7);
        fault("hard 1 2;", 7);
        fault("hard 12345;", 5);
        fault("hard 00000;", 5);
        fault("hard 9999;hides 0000;minds 0;", NONE);
        fault("hardlong;", 0);
        fault("hardz 1;", 0);
        fault("harda 1;", 0);
        fault("hard zlong;", 5);
        fault("hard longz;", 5);
        fault(";".repeat(160), 0);
        fault("-".repeat(160), 0);
        fault("hard " + "1+".repeat(77) + "1", 160);
        fault("hard " + "1+".repeat(77) + "+", 159);
        fault("hard longer;", 5);
        fault("hard lon;", 5);
        fault("hard long3;", 9);
        fault("hard 3long;", 6);
        fault("hard hard;", 5);
        fault("hard or;", 5);
        fault("hard 1 or;", 9);
        fault("hard 1 and or;", 11);
        fault("hard 1<2<3;", 8);
        fault("hard 1=2=3;", 8);
        fault("hard 1<2=3;", 8);
        fault("hard 1<not 2;", 7);
        fault("hard 1+not 2;", 7);
        fault("hard -not 2;", 6);
        fault("hard (1;", 7);
        fault("hard 1);", 6);
        fault("hard ();", 6);
        fault("hard *1;", 5);
        fault("hard +1;", 5);
        fault("hard 1\t+1;", 6);
        fault("hard 1\r+1;", 6);
        fault("hard 1 > 2;", 7);
        fault("hard 1/2;", 6);
        fault("Hard 1;", 0);
        fault("hard A;", 5);
        fault("hard \u00e9;", 5);
        fault("hard \u0000;", 5);
        fault("hard ) ?", 5);
        fault("hard ? )", 5);
        fault("hard 1--1;hides 1- -1;minds not not 1;", NONE);
        fault("hard not 1<2 and not 1=2 or 3;hides(1);minds-1;", NONE);
        fault("hard(1<2)<(3=4);hides 1;minds 1;", NONE);
    }

    private static void promise9Nesting() {
        begin(9);
        fault("hard ((((( 1 )))));hides 0;minds 0;", NONE);
        fault("hard (((((( 1 ))))));", 10);
        fault("hard -----1;hides 0;minds 0;", NONE);
        fault("hard ------1;", 10);
        fault("hard not not not not not 1;hides 0;minds 0;", NONE);
        fault("hard not not not not not not 1;", 25);
        fault("hard not -(not -1);hides 0;minds 0;", NONE);
        fault("hard not -(not --1);", 16);
        fault("hard not -(not -(1));", 16);
        fault("hard not -(not (not 1));", 16);
        fault("hard -----1-1;hides -----1;minds -----1*-----1;", NONE);
        fault("hard not not not not(1) and not not not not(1);hides 0;minds 0;", NONE);
        fault("hard ((((1))))+((((-1))))+(((((1)))));hides 0;minds 0;", NONE);
        fault("hard not not not not not 1<-1;", 27);
        fault("hard not not not not 1<-1 and -----1;hides 0;minds 0;", NONE);
        fault("hard (((((1-1)))));hides 0;minds 0;", NONE);
        fault("hard (((((-1)))));", 10);
    }

    /** The value of an E, as hides tells it. */
    private static void value(String e, int want) {
        AfterEachVowel x = new AfterEachVowel();
        learn(x, "aebo", 77);
        learn(x, "aeb", 8);
        x.rule(1, 25, 4);
        x.rule(3, 0, 11);
        x.then(0);
        x.then(0);
        x.then(1);
        due("force of " + e, x.force(read(x, "hard 0;hides " + e + ";minds 0;")), 0);
        due("hides " + e, x.of(1, 1), want);
    }

    private static void promise9Values() {
        begin(9);
        // aeb by z after vowels twice is azzezzb, with a after vowels then and a at its end: aazzeazzba
        value("long", 10);
        value("vowels", 5);
        value("rules", 3);
        value("number", 11);
        value("word", 1);
        value("weight", 8);
        value("1+2*3", 7);
        value("(1+2)*3", 9);
        value("10-3-2", 5);
        value("10-(3-2)", 9);
        value("- -7", 7);
        value("-7", 0);
        value("99", 99);
        value("100", 99);
        value("9999*9999", 99);
        value("9999*9999*9999", bounded(9999 * 9999 * 9999));
        value("0-9999*9999*50+70", bounded(0 - 9999 * 9999 * 50 + 70));
        value("5 or 0", 1);
        value("0 or 0", 0);
        value("0 or 0 or -3", 1);
        value("5 and 7", 1);
        value("5 and 0", 0);
        value("5 or 0 and 0", 1);
        value("(5 or 0) and 0", 0);
        value("not 5", 0);
        value("not 0", 1);
        value("not not 5", 1);
        value("not 0 and 0", 0);
        value("not (0 and 0)", 1);
        value("not 1<2", 0);
        value("not 2<1", 1);
        value("1<2", 1);
        value("2<2", 0);
        value("-1<1", 1);
        value("2=2", 1);
        value("2=3", 0);
        value("1+1=2", 1);
        value("3*4<3+4", 0);
        value("(3<4)*50+7", 57);
        value("-2*-3", 6);
        value("-(2-30)*2", 56);
        value("((((8))))", 8);
        value("2*3*4", 24);
    }

    /** 160 bytes, with as many cells as there can be. */
    private static String dense(char sign) {
        return "hard-1" + (sign + "1").repeat(68) + ";hides 2;minds 30;";
    }

    private static void promise9Dense() {
        AfterEachVowel x = begin(9);
        learn(x, "b", 0);
        due("bytes", dense('+').length(), 160);
        due("a faulty dense one", read(x, dense('+').replace("hides", "hidez")), -100 - 143);
        due("another", read(x, dense('+').replace("minds", "mindz")), -100 - 151);
        due("a dense one", read(x, dense('+')), 1);
        x.force(1);
        due("its hard", x.of(0, 0), 67);
        due("its hides", x.of(0, 1), 2);
        due("its minds", x.of(0, 2), 30);
    }

    private static int bounded(int v) {
        return Math.max(0, Math.min(99, v));
    }

    private static void promise10() {
        AfterEachVowel x = begin(10);
        learn(x, "abc", 0);
        due("force(-1)", x.force(-1), BAD);
        due("force(1)", x.force(1), BAD);
        due("force(0)", x.force(0), 0);
        due("of(0, 0)", x.of(0, 0), 4);
        read(x, "hard 50;hides 60;minds 70;");
        due("count(5)", x.count(5), 0);
        due("force(1)", x.force(1), 0);
        due("of(0, 0)", x.of(0, 0), 50);
        due("of(0, 1)", x.of(0, 1), 60);
        due("of(0, 2)", x.of(0, 2), 70);
        due("force(2)", x.force(2), BAD);
        due("count(5)", x.count(5), 1);
        due("force(0)", x.force(0), 1);
        due("of(0, 0)", x.of(0, 0), 4);
    }

    private static void promise11() {
        AfterEachVowel x = begin(11);
        due("said(0, 0)", x.said(0, 0), BAD);
        learn(x, "aaaaaaaaaa", 0);
        learn(x, "hello", 0);
        x.rule(1, 0, 0);
        x.rule(3, 25, 0);
        x.rule(5, 0, 0);
        x.rule(2, 0, 25);
        x.rule(4, 0, 24);
        x.rule(0, 9, 9);
        due("said(2, 0)", x.said(2, 0), BAD);
        due("said(-1, 0)", x.said(-1, 0), BAD);
        due("said(0, -2)", x.said(0, -2), BAD);
        due("said(0, 40)", x.said(0, 40), BAD);
        due("said(0, 39)", x.said(0, 39), NONE);
        due("said(0, 10)", x.said(0, 10), NONE);
        due("said(0, 9)", x.said(0, 9), 0);
        x.then(1);
        x.then(2);
        x.then(3);
        x.then(4);
        x.then(5);
        // hezlloz h, back to front, each one back, vowels two back
        same("hello", saying(x, 1), "gynkkydg");
        x.clear();
        x.then(0);
        x.then(0);
        due("40 letters", x.said(0, -1), 40);
        due("said(0, 39)", x.said(0, 39), 0);
        x.then(2);
        due("40 letters", x.said(0, -1), 40);
        x.then(1);
        due("TOO LONG", x.said(0, -1), STATE);
        due("TOO LONG", x.said(0, 39), STATE);
        due("TOO LONG", x.said(0, 40), BAD);
        x.then(3);
        due("TOO LONG", x.said(0, 0), STATE);
        promise11Forty();
        AfterEachVowel y = begin(11);
        learn(y, "aaaaaaaaab", 0);
        y.rule(3, 1, 0);
        y.rule(1, 0, 0);
        y.set(0, 0, 1);
        y.then(1);
        y.then(1);
        due("9 * 4 and 1", y.said(0, -1), 37);
        y.set(4, 1, 0);
        due("9 * 3 and 2", y.said(0, -1), 38);
        y.set(0, 0, 0);
        due("no vowels", y.said(0, -1), 11);
    }

    private static void promise11Forty() {
        AfterEachVowel x = begin(11);
        learn(x, "aaaaaaaaaa", 0);
        x.rule(1, 0, 0);
        x.rule(2, 0, 4);
        x.rule(4, 0, 7);
        x.rule(5, 0, 0);
        x.rule(0, 0, 0);
        x.rule(3, 0, 0);
        for (int rule : new int[] {0, 0, 1, 2, 3, 4}) {
            x.then(rule);
        }
        same("forty by all that keep it so", saying(x, 0), "l".repeat(40));
        x.then(0);
        due("no vowels: AFTER keeps it so, too", x.said(0, -1), 40);
        x.then(5);
        due("AT ENDS does not", x.said(0, -1), STATE);
    }

    private static void promise12() {
        AfterEachVowel x = begin(12);
        due("turned(0, 0, 0)", x.turned(0, 0, 0), BAD);
        learn(x, "hello", 0);
        due("turned(0, 0, 0)", x.turned(0, 0, 0), BAD);
        x.rule(0, 1, 2);
        x.rule(1, 1, 2);
        x.rule(2, 1, 20);
        x.rule(3, 4, 2);
        x.rule(4, 1, 22);
        x.rule(5, 1, 2);
        x.then(5);
        same("PLAIN", turning(x, 0, 0), "hello");
        same("AFTER", turning(x, 0, 1), "hebllob");
        same("SHIFTED", turning(x, 0, 2), "byffi");
        same("AT ENDS", turning(x, 0, 3), "heelloeh");
        same("VOWELS ALONE", turning(x, 0, 4), "hallk");
        same("BACK TO FRONT", turning(x, 0, 5), "olleh");
        due("turned(0, 0, 5)", x.turned(0, 0, 5), NONE);
        due("turned(0, 0, 39)", x.turned(0, 0, 39), NONE);
        due("turned(0, 0, 40)", x.turned(0, 0, 40), BAD);
        due("turned(0, 0, -2)", x.turned(0, 0, -2), BAD);
        due("turned(1, 0, 0)", x.turned(1, 0, 0), BAD);
        due("turned(0, 6, 0)", x.turned(0, 6, 0), BAD);
        due("turned(0, -1, 0)", x.turned(0, -1, 0), BAD);
    }

    private static void promise13() {
        AfterEachVowel x = begin(13);
        due("of(0, 0)", x.of(0, 0), BAD);
        learn(x, "aaaaaaaaaa", 66);
        learn(x, "bcd", 5);
        x.rule(1, 0, 0);
        due("of(2, 0)", x.of(2, 0), BAD);
        due("of(-1, 0)", x.of(-1, 0), BAD);
        due("of(0, 5)", x.of(0, 5), BAD);
        due("of(0, -1)", x.of(0, -1), BAD);
        due("of(0, 0)", x.of(0, 0), 20);
        due("of(0, 1)", x.of(0, 1), 0);
        due("of(0, 2)", x.of(0, 2), 66);
        for (int i = 0; i < 3; i++) {
            x.then(0);
        }
        due("TOO LONG, of(0, 0)", x.of(0, 0), 0);
        due("TOO LONG, of(0, 1)", x.of(0, 1), 0);
        due("TOO LONG, of(0, 2)", x.of(0, 2), 0);
        due("TOO LONG, of(0, 3)", x.of(0, 3), NONE);
        due("TOO LONG, of(0, 4)", x.of(0, 4), 1023);
        due("of(1, 1)", x.of(1, 1), 15);
    }

    /** HARD of a word of v by a rule of a kind and number 7. */
    private static int hardBy(int kind, int v) {
        AfterEachVowel x = new AfterEachVowel();
        learn(x, "b", 0);
        x.rule(2, 0, 0);
        x.rule(kind, 0, 7);
        x.then(0);
        x.then(1);
        x.force(read(x, "hard " + v + ";hides 0;minds 0;"));
        return x.of(0, 0);
    }

    private static void promise13Hard() {
        begin(13);
        int[][] wanted = {{0, 50, 99}, {1, 51, 100}, {0, 100, 198}, {1, 51, 100}, {0, 50, 99}, {7, 57, 106}};
        for (int kind = 0; kind < 6; kind++) {
            due("HARD 0 by " + kind, hardBy(kind, 0), wanted[kind][0]);
            due("HARD 50 by " + kind, hardBy(kind, 50), wanted[kind][1]);
            due("HARD 99 by " + kind, hardBy(kind, 99), wanted[kind][2]);
            due("HARD 500 by " + kind, hardBy(kind, 500), wanted[kind][2]);
            due("HARD -500 by " + kind, hardBy(kind, -500), wanted[kind][0]);
        }
    }

    private static void promise13Round() {
        AfterEachVowel x = begin(13);
        learn(x, "bcd", 0);
        learn(x, "xyx", 0);
        learn(x, "a", 0);
        due("no row", x.of(0, 3), 1);
        x.rule(2, 0, 1);
        x.rule(5, 0, 0);
        x.rule(1, 0, 0);
        x.rule(2, 0, 13);
        x.rule(4, 0, 4);
        x.then(0);
        due("by ones", x.of(0, 3), 26);
        x.then(1);
        due("by ones and back to front", x.of(0, 3), 26);
        x.set(4, 0, 1);
        due("twice back to front", x.of(0, 3), 1);
        x.clear();
        x.then(1);
        due("back to front", x.of(0, 3), 2);
        due("back to front, alike", x.of(1, 3), 1);
        x.set(4, 0, 2);
        due("no vowels", x.of(0, 3), 1);
        due("longer and longer", x.of(2, 3), NONE);
        x.set(4, 0, 3);
        due("by 13", x.of(0, 3), 2);
        x.set(4, 0, 4);
        // a e i m: there it stays
        due("vowels that end", x.of(2, 3), NONE);
        x.set(0, 0, 67108863);
        due("all vowels, by 4", x.of(2, 3), 13);
        AfterEachVowel y = begin(13);
        learn(y, "ab", 0);
        y.rule(4, 0, 1);
        y.rule(5, 0, 0);
        y.set(0, 0, 67108863);
        y.then(0);
        y.then(1);
        due("by ones and back to front", y.of(0, 3), 26);
        y.set(3, 0, 0);
        due("2 turns", y.of(0, 3), 2);
        AfterEachVowel z = begin(13);
        learn(z, "cb", 0);
        z.rule(2, 0, 10);
        z.rule(4, 0, 10);
        z.rule(4, 0, 18);
        z.set(0, 0, 4739073);
        z.then(0);
        z.then(1);
        z.then(2);
        due("c in 5 and b in 12 turns", z.of(0, 3), 60);
        learn(z, "da", 0);
        z.clear();
        z.set(0, 0, 64165376);
        z.set(3, 1, 4);
        z.set(3, 0, 18);
        z.then(1);
        z.then(0);
        due("d in 7 and a in 9 turns are too many", z.of(1, 3), NONE);
    }

    private static void promise13Safe() {
        AfterEachVowel x = begin(13);
        learn(x, "cat", 0);
        due("alone", x.of(0, 4), 7);
        learn(x, "cet", 0);
        due("cat, cet", x.of(0, 4), 5);
        learn(x, "bat", 0);
        due("cat, cet, bat", x.of(0, 4), 4);
        due("bat", x.of(2, 4), 6);
        due("cet", x.of(1, 4), 5);
        due("told(0, 10)", x.told(0, 10), 2);
        learn(x, "bat", 0);
        due("bat, bat", x.of(3, 4), 6);
        AfterEachVowel y = begin(13);
        learn(y, "a", 0);
        learn(y, "bz", 0);
        y.rule(1, 25, 0);
        y.then(0);
        // az, bz: as b it would be b; with vowels as they are nothing else has two letters
        due("a", y.of(0, 4), 1);
        y.set(0, 0, 3);
        // az, bzz
        due("a", y.of(0, 4), 1);
        y.set(0, 0, 2);
        // a, bzz: as b the first one would be bz
        due("a", y.of(0, 4), 1);
        learn(y, "bb", 0);
        y.set(2, 0, 1);
        y.set(0, 0, 1);
        // a with b: ab, bz, bb
        due("a", y.of(0, 4), 1);
        due("bb", y.of(2, 4), 1);
    }

    private static void promise14() {
        AfterEachVowel x = begin(14);
        due("all(5)", x.all(5), -100000);
        due("all(-1)", x.all(-1), -100000);
        due("all(0)", x.all(0), 0);
        due("all(2)", x.all(2), NONE);
        x.rule(0, 0, 0);
        x.rule(1, 0, 0);
        due("all(3) without words", x.all(3), 3);
        learn(x, "bcd", 10);
        due("all(3), no vowels", x.all(3), 3);
        due("all(2), one word", x.all(2), NONE);
        learn(x, "bce", 20);
        due("all(0)", x.all(0), -7);
        due("all(2)", x.all(2), 1);
        due("all(3)", x.all(3), 1);
        learn(x, "bcd", 30);
        due("all(0)", x.all(0), -10 - 40);
        due("all(1)", x.all(1), 5);
        x.rule(2, 0, 1);
        x.drawn(3);
        due("all(2) after a drawn row", x.all(2), 0);
        x.set(0, 0, 0x3FFFFFF);
        x.drawn(3);
        x.set(0, 0, FIRST_VOWELS);
        due("all(1) after a drawn row", x.all(1), 5);
        due("all(4)", x.all(4), 0);
        x.then(0);
        due("all(0)", x.all(0), 15 - 10 - 40);
        AfterEachVowel y = begin(14);
        y.rule(1, 0, 0);
        learn(y, "aaaaaaaaaa", 10);
        learn(y, "aaaaaaaaaa", 20);
        learn(y, "bb", 30);
        due("all(1)", y.all(1), 3);
        due("all(0)", y.all(0), -42 - 30);
        y.then(0);
        y.then(0);
        y.then(0);
        due("TOO LONG ones aren't alike", y.all(1), 0);
        due("all(4)", y.all(4), 3);
        due("all(2), TOO LONG", y.all(2), NONE);
        due("all(0), TOO LONG", y.all(0), 15 - 3);
        AfterEachVowel z = begin(14);
        z.rule(5, 0, 0);
        z.rule(2, 0, 0);
        z.rule(3, 0, 0);
        z.rule(4, 0, 1);
        learn(z, "bab", 0);
        due("back to front, shifted by 0", z.all(3), 3);
        learn(z, "ba", 0);
        due("shifted by 0", z.all(3), 2);
    }

    private static void promise15() {
        AfterEachVowel x = begin(15);
        due("leave(2)", x.leave(2), -100000);
        due("leave(-1)", x.leave(-1), -100000);
        due("leave(0)", x.leave(0), NONE);
        due("leave(1)", x.leave(1), 0);
        learn(x, "bcd", 0);
        x.rule(2, 0, 3);
        x.rule(0, 0, 0);
        x.then(0);
        // efg: 5 hidden, 8 hard; without it bcd: 3 hard, which is not more
        due("all(0)", x.all(0), -3);
        due("leave(0), none is better", x.leave(0), NONE);
        due("leave(1)", x.leave(1), -3);
        x.then(0);
        x.then(0);
        x.then(1);
        due("leave(0)", x.leave(0), NONE);
        x.force(read(x, "hard rules*rules;hides 0;minds 0;"));
        due("all(0)", x.all(0), -16);
        due("leave(0), the first of like ones", x.leave(0), 0);
        due("leave(1)", x.leave(1), -9);
        x.set(4, 2, 1);
        x.set(4, 3, 0);
        due("leave(0), the last", x.leave(0), 3);
        due("leave(1)", x.leave(1), -9);
        due("count(2)", x.count(2), 4);
        due("told(3, 4)", x.told(3, 4), 0);
    }

    private static void promise16() {
        AfterEachVowel x = begin(16);
        due("order(2)", x.order(2), -100000);
        due("order(-1)", x.order(-1), -100000);
        learn(x, "bcd", 0);
        due("order(0), no rules", x.order(0), -3);
        due("order(1), no rules", x.order(1), 0);
        x.rule(2, 0, 3);
        due("order(0)", x.order(0), 5 - 2 * 4);
        due("order(1)", x.order(1), 1);
        x.rule(0, 0, 0);
        x.rule(0, 0, 0);
        // the shift makes an e of b: 4 hard; as the last one twice that
        due("order(1)", x.order(1), 123);
        due("order(0)", x.order(0), 15 - 4);
        x.set(3, 0, 0);
        due("order(1)", x.order(1), 123);
        x.force(read(x, "hard 9*number;hides 0;minds 0;"));
        x.set(3, 0, 5);
        x.set(3, 1, 2);
        x.set(3, 2, 1);
        due("order(1)", x.order(1), 123);
        due("order(0)", x.order(0), -9);
        x.set(3, 1, 0);
        due("order(1)", x.order(1), 132);
        due("order(0)", x.order(0), 0);
        due("count(2)", x.count(2), 0);
        x.then(0);
        due("THE ROW does not matter", x.order(1), 132);
        due("THE ROW stays", x.count(2), 1);
        x.rule(5, 0, 25);
        x.rule(5, 0, 25);
        x.rule(5, 0, 25);
        due("order(1) of six", x.order(1), 134562);
        AfterEachVowel y = begin(16);
        learn(y, "bcd", 0);
        y.image();
        y.rule(5, 0, 9);
        due("order(0)", y.order(0), 5 - 3 - 9);
        y.back();
        due("order(0), no rules any more", y.order(0), -3);
        due("order(1), no rules any more", y.order(1), 0);
    }

    private static void promise17() {
        AfterEachVowel x = begin(17);
        due("letter(0, 0)", x.letter(0, 0), -100000);
        x.rule(1, 7, 0);
        due("letter(0, 2)", x.letter(0, 2), -100000);
        due("letter(0, -1)", x.letter(0, -1), -100000);
        due("letter(1, 0)", x.letter(1, 0), -100000);
        due("letter(-1, 0)", x.letter(-1, 0), -100000);
        due("letter(0, 0), no words", x.letter(0, 0), 0);
        due("letter(0, 1), no words", x.letter(0, 1), 0);
        learn(x, "a", 50);
        x.then(0);
        due("letter(0, 0): b is no vowel", x.letter(0, 0), 1);
        due("letter(0, 1)", x.letter(0, 1), 5 - 4);
        due("told(0, 2)", x.told(0, 2), 7);
        x.set(0, 0, 0x1FFFFFF);
        due("letter(0, 0): z alone is no vowel", x.letter(0, 0), 25);
        due("letter(0, 1)", x.letter(0, 1), 1);
        x.set(0, 0, 0x3FFFFFF);
        due("letter(0, 0): all are vowels", x.letter(0, 0), 0);
        due("letter(0, 1)", x.letter(0, 1), 0);
        AfterEachVowel y = begin(17);
        y.rule(1, 0, 0);
        learn(y, "ae", 0);
        y.rule(3, 1, 0);
        y.then(1);
        due("letter(0, 0), not in THE ROW", y.letter(0, 0), 0);
        due("letter(0, 1)", y.letter(0, 1), y.all(0));
    }

    private static void promise18() {
        AfterEachVowel x = begin(18);
        due("heard(4, 0)", x.heard(4, 0), BAD);
        due("heard(-1, 0)", x.heard(-1, 0), BAD);
        due("heard(0, 3), missing", x.heard(0, 3), BAD);
        due("heard(0, -1)", x.heard(0, -1), BAD);
        due("heard(0, 0), missing", x.heard(0, 0), -11);
        learn(x, "ab", 0);
        learn(x, "ba", 0);
        learn(x, "ab", 0);
        learn(x, "ca", 0);
        x.rule(5, 0, 0);
        x.rule(0, 0, 0);
        x.rule(2, 0, 25);
        put(x, 0, "ba");
        due("heard(0, 0)", x.heard(0, 0), 2);
        due("heard(0, 1)", x.heard(0, 1), 3);
        due("heard(0, 2)", x.heard(0, 2), 3);
        x.then(0);
        due("heard(0, 0)", x.heard(0, 0), 5);
        due("heard(0, 1)", x.heard(0, 1), 3);
        putNumbers(x, 1, 2, 1, 25);
        due("heard(1, 1), by ints", x.heard(1, 1), 4);
        due("heard(1, 2)", x.heard(1, 2), 1);
        putNumbers(x, 1, 2, 1, 26);
        due("heard(1, 1), no letters", x.heard(1, 1), 0);
        putNumbers(x, 1, 2, 257, 0);
        due("heard(1, 0), no letters", x.heard(1, 0), 0);
        x.sheet(1, 0, 0);
        due("heard(1, 0) of nothing", x.heard(1, 0), 0);
        due("heard(1, 2) of nothing", x.heard(1, 2), 0);
        put(x, 1, "b");
        due("heard(1, 0) of a part", x.heard(1, 0), 0);
        put(x, 1, "bab");
        due("heard(1, 0) of more", x.heard(1, 0), 0);
    }

    private static void promise19() {
        AfterEachVowel x = begin(19);
        due("found(0, 0, 0, 0)", x.found(0, 0, 0, 0), BAD);
        learn(x, "ab", 0);
        due("found(0, 0, 0, 0)", x.found(0, 0, 0, 0), BAD);
        x.rule(1, 3, 2);
        x.rule(5, 0, 0);
        due("found(0, 0, 0, 0), missing", x.found(0, 0, 0, 0), -11);
        due("found(0, 0, 0, 3), missing", x.found(0, 0, 0, 3), BAD);
        due("found(0, 0, 0, -1)", x.found(0, 0, 0, -1), BAD);
        due("found(4, 0, 0, 0)", x.found(4, 0, 0, 0), BAD);
        due("found(0, 1, 0, 0)", x.found(0, 1, 0, 0), BAD);
        due("found(0, 0, 2, 0)", x.found(0, 0, 2, 0), BAD);
        x.then(0);
        x.then(1);
        put(x, 0, "bza");
        due("by z", x.found(0, 0, 0, 0), 1 << 25);
        due("by no number", x.found(0, 0, 0, 1), 0);
        due("by no kind", x.found(0, 0, 0, 2), 0);
        put(x, 0, "dc");
        due("by SHIFTED", x.found(0, 0, 0, 2), 4);
        due("it is as it was", x.told(0, 5), 1);
        put(x, 0, "bda");
        due("as it is, letters", x.found(0, 0, 0, 0), 8);
        due("as it is, numbers", x.found(0, 0, 0, 1), 67108863);
        due("as it is, kinds", x.found(0, 0, 0, 2), 2);
        due("it is as it was", x.told(0, 2), 3);
        due("it is as it was", x.told(0, 3), 2);
        put(x, 0, "adb");
        due("by what is PLAIN, SHIFTED by 0, with no vowels", x.found(0, 0, 1, 2), 1 | 4 | 16);
        due("a rule that stands there", x.found(0, 0, 1, 0), 0);
        x.clear();
        put(x, 0, "ab");
        due("a rule that does not stand there", x.found(0, 0, 1, 0), 67108863);
        due("a rule that does not stand there", x.found(0, 0, 1, 2), 63);
        AfterEachVowel y = begin(19);
        learn(y, "az", 0);
        y.rule(2, 0, 5);
        y.then(0);
        y.then(0);
        put(y, 1, "ed");
        due("twice by 2, or by 15", y.found(1, 0, 0, 1), 1 << 2 | 1 << 15);
    }

    private static void promise20() {
        AfterEachVowel x = begin(20);
        due("alikeTexts()", x.alikeTexts(), 1);
        read(x, "hard 9;hides 8;minds 7;");
        due("without words all are", x.alikeTexts(), 3);
        learn(x, "bcd", 0);
        due("alikeTexts()", x.alikeTexts(), 1);
        read(x, "hard 0;hides 0-5;minds 3;");
        read(x, "hard 4;hides 1;minds 3;");
        read(x, "hard 0;hides 9;minds 3;");
        due("alikeTexts()", x.alikeTexts(), 1 | 8);
        due("force(4)", x.force(4), 0);
        due("alikeTexts()", x.alikeTexts(), 16);
        due("count(5)", x.count(5), 4);
    }

    private static void promise21() {
        AfterEachVowel x = begin(21);
        due("film(0, 0)", x.film(0, 0), BAD);
        learn(x, "aaaaaaaaaa", 0);
        learn(x, "abc", 0);
        due("film(4, 0)", x.film(4, 0), BAD);
        due("film(-1, 0)", x.film(-1, 0), BAD);
        due("film(0, 2)", x.film(0, 2), BAD);
        due("film(0, -1)", x.film(0, -1), BAD);
        due("film(0, 1)", x.film(0, 1), 3);
        due("heard(0, 0)", x.heard(0, 0), 2);
        due("three items", x.cell(0, 3, 0), -12);
        x.rule(1, 0, 0);
        x.then(0);
        x.then(0);
        x.sheet(1, 2, 1);
        due("film(1, 0)", x.film(1, 0), 40);
        due("forty items", x.cell(1, 39, 0), 1);
        due("forty items", x.cell(1, 40, 0), -12);
        x.sheet(2, 0, 1);
        due("they are bytes", x.copy(1, 0, 2, 0, 1), 1);
        x.then(0);
        due("TOO LONG", x.film(0, 0), STATE);
        due("TOO LONG, no such sheet", x.film(4, 0), BAD);
        due("the sheet stays", x.cell(0, 3, 0), -12);
        x.film(0, 1);
        x.cell(0, 0, 7);
        due("the word stays", x.told(1, 10), 0);
    }

    private static void promise22() {
        AfterEachVowel x = begin(22);
        learn(x, "bcd", 0);
        due("drawn without rules", x.drawn(123), -3);
        x.rule(0, 0, 0);
        // k is 1 .. 4 and hides tells 5 for each
        boolean[] seen = new boolean[4];
        for (int seed = 0; seed < 40; seed++) {
            int z = seed * 1103515245 + 12345;
            int k = (z >>> 9) % 4 + 1;
            seen[k - 1] = true;
            due("drawn(" + seed + ")", x.drawn(seed), 5 * k - 3);
        }
        Due.holds("all of 1 .. 4 were drawn", seen[0] && seen[1] && seen[2] && seen[3]);
        x.rule(5, 0, 10);
        x.rule(5, 0, 20);
        for (int seed : new int[] {0, 1, -1, 77, Integer.MAX_VALUE, Integer.MIN_VALUE}) {
            int z = seed * 1103515245 + 12345;
            int k = (z >>> 9) % 4 + 1;
            for (int i = 0; i < k; i++) {
                z = z * 1103515245 + 12345;
            }
            due("drawn(" + seed + ")", x.drawn(seed), 5 * k - 3 - 10 * ((z >>> 9) % 3));
        }
        due("THE ROW stays", x.count(2), 0);
    }

    private static void promise23() {
        AfterEachVowel x = begin(23);
        long no = AfterEachVowel.NO;
        due("chance(0, 0, 0)", x.chance(0, 0, 0), no);
        due("chance(0, 21, 0)", x.chance(0, 21, 0), no);
        due("chance(0, -1, 0)", x.chance(0, -1, 0), no);
        due("chance(0, 1, 2)", x.chance(0, 1, 2), no);
        due("chance(0, 1, -1)", x.chance(0, 1, -1), no);
        due("chance(0, 20, 0)", x.chance(0, 20, 0), 1);
        due("chance(0, 20, 1)", x.chance(0, 20, 1), 1);
        learn(x, "a", 0);
        learn(x, "e", 0);
        x.rule(4, 0, 4);
        // a, e become e, i; then i, m; then m, m: alike after three or four
        int good = 0;
        int n = 20;
        for (int i = 0; i < n; i++) {
            int z = (Integer.MAX_VALUE - 9 + i) * 1103515245 + 12345;
            good += (z >>> 9) % 4 + 1 < 3 ? 1 : 0;
        }
        Due.holds("some, not all", good > 0 && good < n);
        long above = x.chance(Integer.MAX_VALUE - 9, n, 0);
        long below = x.chance(Integer.MAX_VALUE - 9, n, 1);
        due("above * n", above * n, good * below);
        Due.holds("lowest terms", java.math.BigInteger.valueOf(above).gcd(java.math.BigInteger.valueOf(below)).intValue() == 1);
        learn(x, "a", 0);
        due("always alike, above", x.chance(5, 12, 0), 0);
        due("always alike, below", x.chance(5, 12, 1), 1);
    }

    private static void promise24And25() {
        AfterEachVowel x = begin(24);
        due("back()", x.back(), STATE);
        due("image() of nothing", x.image(), 0);
        learn(x, "abc", 9);
        x.rule(1, 2, 3);
        x.then(0);
        due("image()", x.image(), 1);
        read(x, "hard 1;hides 1;minds 1;");
        x.force(1);
        x.set(0, 0, 5);
        x.set(1, 0, 8);
        x.set(2, 0, 7);
        x.set(3, 0, 6);
        x.rule(5, 5, 5);
        x.set(4, 0, 1);
        x.then(1);
        learn(x, "xyz", 1);
        x.feed(32);
        promise = 25;
        due("back()", x.back(), 1);
        due("VOWELS", x.told(0, 0), FIRST_VOWELS);
        due("WORDS", x.count(0), 1);
        due("WEIGHT", x.told(0, 1), 9);
        due("LETTER", x.told(0, 2), 2);
        due("NUMBER", x.told(0, 3), 3);
        due("RULES", x.count(1), 1);
        due("THE ROW", x.count(2), 1);
        due("THE ROW", x.told(0, 4), 0);
        due("THE LAW", x.count(5), 0);
        due("texts stay", x.count(3), 2);
        due("THE TAPE stays", x.count(4), 1);
        due("sheets stay", x.heard(3, 0), 0);
        due("a rule of another kind comes", x.rule(2, 0, 0), 1);
        due("told(1, 5)", x.told(1, 5), 2);
        x.clear();
        due("back() once more", x.back(), 1);
        due("count(2)", x.count(2), 1);
        due("count(1)", x.count(1), 1);
        x.set(1, 0, 55);
        promise = 24;
        due("another image()", x.image(), 1);
        x.set(1, 0, 44);
        x.back();
        due("WEIGHT", x.told(0, 1), 55);
        AfterEachVowel y = begin(24);
        learn(y, "abc", 1);
        learn(y, "d", 2);
        y.image();
        y.rule(0, 0, 0);
        y.then(0);
        y.back();
        due("letters", y.told(1, 10), 3);
        due("sizes", y.told(1, 6), 1);
        due("THE ROW is empty", y.count(2), 0);
        due("then(0)", y.then(0), BAD);
    }

    private static void promise26() {
        AfterEachVowel x = begin(26);
        learn(x, "a", 0);
        learn(x, "b", 0);
        x.rule(0, 0, 0);
        x.then(0);
        x.then(0);
        x.then(0);
        read(x, "hard 1;hides 1;minds 1;");
        x.force(1);
        x.feed(32);
        x.feed(32);
        x.feed(32);
        x.feed(32);
        int[] wanted = {2, 1, 3, 2, 4, 1};
        for (int what = 0; what < 6; what++) {
            due("count(" + what + ")", x.count(what), wanted[what]);
        }
        due("count(-1)", x.count(-1), BAD);
        due("count(6)", x.count(6), BAD);
    }

    private static void promise27() {
        AfterEachVowel x = begin(27);
        due("sheet(-1, 0, 1)", x.sheet(-1, 0, 1), BAD);
        due("sheet(4, 0, 1)", x.sheet(4, 0, 1), BAD);
        due("sheet(0, -2, 1)", x.sheet(0, -2, 1), BAD);
        due("sheet(0, 3, 1)", x.sheet(0, 3, 1), BAD);
        due("sheet(0, 3, -1)", x.sheet(0, 3, -1), BAD);
        due("sheet(0, 0, 41)", x.sheet(0, 0, 41), BAD);
        due("sheet(0, 0, -1)", x.sheet(0, 0, -1), -14);
        due("it is missing still", x.cell(0, 0, 0), -11);
        for (int sort = 0; sort < 3; sort++) {
            due("sheet(3, " + sort + ", 40)", x.sheet(3, sort, 40), 1);
            due("cell(3, 39, 1)", x.cell(3, 39, 1), 1);
        }
        due("sheet(3, 0, 41)", x.sheet(3, 0, 41), BAD);
        due("sheet(3, 0, -1)", x.sheet(3, 0, Integer.MIN_VALUE), -14);
        due("it is as it was", x.cell(3, 39, 1), 1);
        due("sheet(3, 0, 0)", x.sheet(3, 0, 0), 1);
        due("it has none", x.cell(3, 0, 1), -12);
        due("sheet(3, -1, 99)", x.sheet(3, -1, 99), 1);
        due("it is missing", x.cell(3, 0, 1), -11);
        due("sheet(3, -1, -5)", x.sheet(3, -1, -5), 1);
        putNumbers(x, 0, 0, 3, 4);
        x.sheet(0, 0, 2);
        due("all 0", x.learn(0, 0), 0);
        due("all 0", x.told(0, 10), 0);
        due("all 0", x.told(0, 11), 0);
    }

    private static void promise28() {
        AfterEachVowel x = begin(28);
        due("cell(4, 0, 0)", x.cell(4, 0, 0), BAD);
        due("cell(-1, 0, 0)", x.cell(-1, 0, 0), BAD);
        due("cell(0, -1, 0), missing", x.cell(0, -1, 0), -11);
        x.sheet(0, 0, 2);
        due("cell(0, 2, 0)", x.cell(0, 2, 0), -12);
        due("cell(0, -1, 0)", x.cell(0, -1, 0), -12);
        due("cell(0, 1, 0)", x.cell(0, 1, 0), 1);
        int[] values = {3 + 256, 3 + 65536, 3};
        for (int sort = 0; sort < 3; sort++) {
            x.sheet(0, sort, 1);
            due("cell of sort " + sort, x.cell(0, 0, values[sort]), 1);
            due("learn of sort " + sort, x.learn(0, 0), sort);
            due("told of sort " + sort, x.told(sort, 10), 3);
        }
        x.sheet(0, 1, 1);
        x.cell(0, 0, 3 + 256);
        due("a short of 9 bits", x.learn(0, 0), BAD);
        x.sheet(0, 2, 1);
        x.cell(0, 0, 3 + 65536);
        due("an int of 17 bits", x.learn(0, 0), BAD);
    }

    private static void promise29() {
        AfterEachVowel x = begin(29);
        due("copy(4, ..)", x.copy(4, 0, 0, 0, 0), BAD);
        due("copy(.., -1, ..)", x.copy(0, 0, -1, 0, 0), BAD);
        due("both missing", x.copy(0, 0, 1, 0, 0), -11);
        putNumbers(x, 0, 0, 1, 2, 3, 4, 5);
        due("one missing", x.copy(0, 0, 1, 9, -1), -11);
        due("the other missing", x.copy(1, 0, 0, 0, 0), -11);
        x.sheet(1, 1, 5);
        due("unlike sorts", x.copy(0, 9, 1, 0, 0), -13);
        x.sheet(1, 0, 3);
        due("n below 0", x.copy(0, 0, 1, 0, -1), -12);
        due("i below 0", x.copy(0, -1, 1, 0, 1), -12);
        due("j below 0", x.copy(0, 0, 1, -1, 1), -12);
        due("too many there", x.copy(0, 0, 1, 0, 4), -12);
        due("too many here", x.copy(0, 4, 1, 0, 2), -12);
        due("i wraps", x.copy(0, Integer.MAX_VALUE, 1, 0, 1), -12);
        due("n wraps", x.copy(0, 1, 1, 1, Integer.MAX_VALUE), -12);
        due("n least", x.copy(0, 1, 1, 1, Integer.MIN_VALUE), -12);
        due("none from the end", x.copy(0, 5, 1, 3, 0), 0);
        due("none from behind the end", x.copy(0, 6, 1, 0, 0), -12);
        due("none to behind the end", x.copy(0, 0, 1, 4, 0), -12);
        due("copy(0, 2, 1, 1, 2)", x.copy(0, 2, 1, 1, 2), 2);
        x.learn(1, 0);
        same("copied", saying(x, 0), "ade");
        due("upwards within one", x.copy(0, 0, 0, 1, 4), 4);
        x.learn(0, 0);
        same("copied", saying(x, 1), "bbcde");
        due("downwards within one", x.copy(0, 1, 0, 0, 4), 4);
        x.learn(0, 0);
        same("copied", saying(x, 2), "bcdee");
    }

    private static void promise30() {
        AfterEachVowel x = begin(30);
        due("rules(4, 0, 0, 0)", x.rules(4, 0, 0, 0), BAD);
        due("rules(0, 3, 0, 0)", x.rules(0, 3, 0, 0), BAD);
        due("rules(0, -1, 0, 0)", x.rules(0, -1, 0, 0), BAD);
        due("rules(0, 0, 0, 7)", x.rules(0, 0, 0, 7), BAD);
        due("rules(0, 0, 0, -1)", x.rules(0, 0, 0, -1), BAD);
        due("missing", x.rules(0, 0, 0, 1), -11);
        due("missing, n 0", x.rules(0, 2, -5, 0), -11);
        putNumbers(x, 0, 2, 9, 1, 2, 3, 6, 0, 0, 2, 4, 5, 0, 0);
        due("of another sort", x.rules(0, 0, 0, 1), -13);
        due("of another sort", x.rules(0, 1, -1, 0), -13);
        due("n 0", x.rules(0, 2, 0, 0), 0);
        due("from -1", x.rules(0, 2, -1, 1), -12);
        due("from -3", x.rules(0, 2, -3, 2), -12);
        due("from the most", x.rules(0, 2, Integer.MAX_VALUE, 1), -12);
        due("from the most less 1", x.rules(0, 2, Integer.MAX_VALUE - 1, 2), -12);
        due("the last two alone", x.rules(0, 2, 10, 1), -12);
        due("count(1)", x.count(1), 0);
        due("rules(0, 2, 1, 3)", x.rules(0, 2, 1, 3), 2);
        due("count(1)", x.count(1), 2);
        due("told(0, 5)", x.told(0, 5), 1);
        due("told(1, 2)", x.told(1, 2), 4);
        due("told(1, 3)", x.told(1, 3), 5);
        due("four, one of them outside", x.rules(0, 2, 1, 4), -12);
        due("what stood ahead came", x.count(1), 4);
        x.sheet(1, 0, 18);
        due("no room for four of six", x.rules(1, 0, 0, 6), 2);
        due("count(1)", x.count(1), 6);
        due("no room at all", x.rules(1, 0, 0, 6), 0);
        due("no room, and outside", x.rules(1, 0, 3, 6), -12);
    }

    private static void promise31() {
        AfterEachVowel x = begin(31);
        due("taken(0, 6), no such rule", x.taken(0, 6), BAD);
        due("taken(0, -1), no such rule", x.taken(0, -1), BAD);
        due("taken(0, 0), no such rule", x.taken(0, 0), -11);
        for (int kind = 0; kind < 6; kind++) {
            x.rule(kind, 0, 10 + kind);
        }
        int[] above = {1, 1 | 2, 1 | 4, 1 | 2 | 8, 1 | 4 | 16, 1 | 32};
        for (int kind = 0; kind < 6; kind++) {
            for (int k = 0; k < 6; k++) {
                boolean is = (above[kind] & 1 << k) != 0;
                due("taken(" + kind + ", " + k + ")", x.taken(kind, k), is ? 10 + kind : -13);
            }
        }
        due("taken(6, 0)", x.taken(6, 0), -11);
        due("taken(-1, 0)", x.taken(-1, 0), -11);
        due("taken(0, 6)", x.taken(0, 6), BAD);
    }
}
