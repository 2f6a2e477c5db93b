/** The edges of promises 1 to 7: words, rules, the row. */
public final class EdgesOfWordsTest extends Scene {
    public static void main(String[] args) {
        Cases.run(EdgesOfWordsTest.class, 1, 7);
    }

    // ---- 1: a new object

    @Says("No WORDS")
    void promise1_noWords() {
        due(x.count(0), 0);
        due(x.told(0, 6), NONE_SUCH);
        due(x.said(0, NONE), BAD);
    }

    @Says("no RULES.")
    void promise1_noRules() {
        due(x.count(1), 0);
        due(x.told(0, 5), NONE_SUCH);
        due(x.then(0), BAD);
    }

    @Says("THE ROW: up to 8 RULES")
    void promise1_emptyRow() {
        due(x.count(2), 0);
        due(x.told(0, 4), NONE_SUCH);
    }

    @Says("0, 4, 8, 14, 20 at first: 1065233")
    void promise1_vowelsAtFirst() {
        due(x.told(0, 0), FIRST_VOWELS);
        due(1 | 1 << 4 | 1 << 8 | 1 << 14 | 1 << 20, FIRST_VOWELS);
    }

    @Says("TEXT 0, at first THE LAW, is:")
    void promise1_textZeroIsTheLaw() {
        due(x.count(3), 1);
        due(x.count(5), 0);
    }

    @Says("THE TAPE (160 bytes at most)")
    void promise1_emptyTape() {
        due(x.count(4), 0);
    }

    @Says("or missing (as all are at first)")
    void promise1_sheetsAreMissing() {
        for (int sheet = 0; sheet < 4; sheet++) {
            due(x.cell(sheet, 0, 0), NOTHING);
        }
    }

    @Says("AN IMAGE keeps")
    void promise1_noImage() {
        due(x.back(), STATE);
    }

    @Says("No WORDS, no RULES.")
    void promise1_objectsShareNothing() {
        word("ab");
        x.rule(PLAIN, 0, 0);
        x.then(0);
        x.set(0, 0, 1);
        x.feed(32);
        x.image();
        x = new AfterEachVowel();
        promise1_noWords();
        promise1_noRules();
        promise1_emptyRow();
        promise1_vowelsAtFirst();
        promise1_emptyTape();
        promise1_sheetsAreMissing();
        promise1_noImage();
    }

    @Says("An object is used for at most 512 calls after it has been made")
    void promise1_call512() {
        for (int call = 1; call <= 510; call++) {
            due(x.count(1), 0);
        }
        due(x.rule(PLAIN, 0, 0), 0);
        due(x.then(0), 1);
    }

    @Says({"NONE is -1;", "NO, where a long is answered, -4611686018427387904.",
        "BAD (-2: a number is none such or not as told), STATE (-3), FULL (-4); the host's:"})
    void promise1_constants() {
        due(AfterEachVowel.NONE, -1);
        due(AfterEachVowel.NO, -4611686018427387904L);
        due(AfterEachVowel.BAD, -2);
        due(AfterEachVowel.STATE, -3);
        due(AfterEachVowel.FULL, -4);
    }

    // ---- 2: learn

    private void eightWords() {
        letters(0, "abc");
        for (int word = 0; word < 8; word++) {
            x.learn(0, word);
        }
    }

    @Says({"A WORD by a SHEET (its LETTERS): its number.", "numbered from 0"})
    void promise2_numberedFrom0() {
        letters(0, "ab");
        due(x.learn(0, 5), 0);
        letters(0, "c");
        due(x.learn(0, 6), 1);
        due(x.told(0, 10), 0);
        due(x.told(0, 11), 1);
        due(x.told(1, 10), 2);
        due(x.told(0, 1), 5);
        due(x.told(1, 1), 6);
    }

    @Says("BAD: SHEET")
    void promise2_sheetBelow0() {
        refused(() -> x.learn(-1, 0), BAD);
        refused(() -> x.learn(LEAST, 0), BAD);
    }

    @Says("BAD: SHEET")
    void promise2_sheetAbove3() {
        refused(() -> x.learn(4, 0), BAD);
        refused(() -> x.learn(MOST, 0), BAD);
    }

    @Says("SHEETS 0 .. 3")
    void promise2_firstAndLastSheet() {
        letters(0, "a");
        letters(3, "b");
        due(x.learn(0, 0), 0);
        due(x.learn(3, 0), 1);
    }

    @Says("WEIGHT;")
    void promise2_weightBelow0() {
        letters(0, "a");
        refused(() -> x.learn(0, -1), BAD);
        refused(() -> x.learn(0, LEAST), BAD);
    }

    @Says("WEIGHT;")
    void promise2_weightAbove99() {
        letters(0, "a");
        refused(() -> x.learn(0, 100), BAD);
        refused(() -> x.learn(0, MOST), BAD);
    }

    @Says("a WEIGHT (0 .. 99).")
    void promise2_leastAndMostWeight() {
        letters(0, "a");
        due(x.learn(0, 0), 0);
        due(x.learn(0, 99), 1);
        due(x.told(0, 1), 0);
        due(x.told(1, 1), 99);
    }

    @Says("-11;")
    void promise2_missingSheet() {
        refused(() -> x.learn(0, 0), NOTHING);
        refused(() -> x.learn(3, 99), NOTHING);
    }

    @Says("-11;")
    void promise2_sheetMissingAgain() {
        letters(0, "a");
        x.sheet(0, MISSING, 1);
        refused(() -> x.learn(0, 0), NOTHING);
    }

    @Says("BAD: it tells not 1 .. 10")
    void promise2_noLetters() {
        x.sheet(0, BYTES, 0);
        refused(() -> x.learn(0, 0), BAD);
    }

    @Says("BAD: it tells not 1 .. 10")
    void promise2_elevenLetters() {
        x.sheet(0, BYTES, 11);
        refused(() -> x.learn(0, 0), BAD);
        x.sheet(0, BYTES, 40);
        refused(() -> x.learn(0, 0), BAD);
    }

    @Says("1 .. 10 LETTERS each")
    void promise2_oneLetter() {
        letters(0, "q");
        due(x.learn(0, 0), 0);
        due(x.told(0, 6), 1);
        due(x.told(0, 10), 16);
        due(x.told(0, 11), NONE);
    }

    @Says("1 .. 10 LETTERS each")
    void promise2_tenLetters() {
        letters(0, "bcdfghjklz");
        due(x.learn(0, 0), 0);
        due(x.told(0, 6), 10);
        due(x.told(0, 10), 1);
        due(x.told(0, 19), 25);
    }

    @Says("what is no LETTER;")
    void promise2_letterBelow0() {
        numbers(0, BYTES, -1);
        refused(() -> x.learn(0, 0), BAD);
        numbers(1, INTS, LEAST);
        refused(() -> x.learn(1, 0), BAD);
    }

    @Says("what is no LETTER;")
    void promise2_letter26() {
        numbers(0, BYTES, 26);
        refused(() -> x.learn(0, 0), BAD);
        numbers(1, INTS, MOST);
        refused(() -> x.learn(1, 0), BAD);
    }

    @Says("what is no LETTER;")
    void promise2_onlyTheLastOrFirstIsNoLetter() {
        numbers(0, BYTES, 0, 0, 26);
        refused(() -> x.learn(0, 0), BAD);
        numbers(1, BYTES, -1, 0, 0);
        refused(() -> x.learn(1, 0), BAD);
    }

    @Says("25.")
    void promise2_firstAndLastLetter() {
        numbers(0, INTS, 0, 25);
        due(x.learn(0, 0), 0);
        due(x.told(0, 10), 0);
        due(x.told(0, 11), 25);
    }

    @Says("what is no LETTER;")
    void promise2_lettersOfEachSort() {
        numbers(0, BYTES, 256 + 3);
        due(x.learn(0, 0), 0);
        numbers(0, SHORTS, 65536 + 4);
        due(x.learn(0, 0), 1);
        numbers(0, SHORTS, 256 + 3);
        due(x.learn(0, 0), BAD);
        numbers(0, INTS, 65536 + 4);
        due(x.learn(0, 0), BAD);
        due(x.told(0, 10), 3);
        due(x.told(1, 10), 4);
    }

    @Says("WORDS (8 at most")
    void promise2_eighthHasRoom() {
        eightWords();
        due(x.count(0), 8);
        for (int word = 0; word < 8; word++) {
            due(x.told(word, 1), word);
        }
    }

    @Says("FULL.")
    void promise2_ninthHasNone() {
        eightWords();
        refused(() -> x.learn(0, 50), FULL);
    }

    @Says("Refusals, the first that the call's words name;")
    void promise2_badWeightAheadOfMissing() {
        refused(() -> x.learn(0, 100), BAD);
    }

    @Says("Refusals, the first that the call's words name;")
    void promise2_missingAheadOfFull() {
        eightWords();
        refused(() -> x.learn(1, 0), NOTHING);
    }

    @Says("Refusals, the first that the call's words name;")
    void promise2_badWeightAheadOfFull() {
        eightWords();
        refused(() -> x.learn(0, 100), BAD);
    }

    @Says("Refusals, the first that the call's words name;")
    void promise2_noLettersAheadOfFull() {
        eightWords();
        x.sheet(0, BYTES, 0);
        refused(() -> x.learn(0, 0), BAD);
    }

    @Says("Refusals, the first that the call's words name;")
    void promise2_wrongLetterAheadOfFull() {
        eightWords();
        numbers(0, BYTES, 26);
        refused(() -> x.learn(0, 0), BAD);
    }

    @Says("A WORD by a SHEET (its LETTERS): its number.")
    void promise2_sheetIsFreeAfterwards() {
        letters(0, "abc");
        x.learn(0, 0);
        x.cell(0, 0, 9);
        same(said(0), "abc");
        x.sheet(0, MISSING, 0);
        same(said(0), "abc");
    }

    @Says("A WORD by a SHEET (its LETTERS): its number.")
    void promise2_likeWordsAreTwo() {
        due(word("ab"), 0);
        due(word("ab"), 1);
    }

    // ---- 3: rule

    private void sixRules() {
        for (int kind = 0; kind < 6; kind++) {
            x.rule(kind, kind, 25 - kind);
        }
    }

    @Says({"A RULE: its number.", "numbered from 0"})
    void promise3_numberedFrom0() {
        due(x.rule(AT_ENDS, 7, 8), 0);
        due(x.rule(AFTER, 9, 10), 1);
        due(x.told(0, 5), AT_ENDS);
        due(x.told(0, 2), 7);
        due(x.told(0, 3), 8);
        due(x.told(1, 5), AFTER);
        due(x.told(1, 2), 9);
        due(x.told(1, 3), 10);
    }

    @Says("BAD;")
    void promise3_kindBelow0() {
        refused(() -> x.rule(-1, 0, 0), BAD);
        refused(() -> x.rule(LEAST, 0, 0), BAD);
    }

    @Says("BAD;")
    void promise3_kindAbove5() {
        refused(() -> x.rule(6, 0, 0), BAD);
        refused(() -> x.rule(MOST, 0, 0), BAD);
    }

    @Says("BAD;")
    void promise3_letterBelow0() {
        refused(() -> x.rule(AFTER, -1, 0), BAD);
        refused(() -> x.rule(AFTER, LEAST, 0), BAD);
    }

    @Says("BAD;")
    void promise3_letterAbove25() {
        refused(() -> x.rule(AFTER, 26, 0), BAD);
        refused(() -> x.rule(AFTER, MOST, 0), BAD);
    }

    @Says("BAD;")
    void promise3_numberBelow0() {
        refused(() -> x.rule(SHIFTED, 0, -1), BAD);
        refused(() -> x.rule(SHIFTED, 0, LEAST), BAD);
    }

    @Says("BAD;")
    void promise3_numberAbove25() {
        refused(() -> x.rule(SHIFTED, 0, 26), BAD);
        refused(() -> x.rule(SHIFTED, 0, MOST), BAD);
    }

    @Says("a LETTER, a NUMBER (0 .. 25).")
    void promise3_whatAKindDoesNotUseIsLookedAtToo() {
        refused(() -> x.rule(PLAIN, 26, 0), BAD);
        refused(() -> x.rule(PLAIN, 0, 26), BAD);
        refused(() -> x.rule(SHIFTED, 26, 0), BAD);
        refused(() -> x.rule(AFTER, 0, 26), BAD);
    }

    @Says({"0 PLAIN", "5 BACK TO FRONT under PLAIN;"})
    void promise3_firstAndLastKind() {
        due(x.rule(0, 0, 0), 0);
        due(x.rule(5, 0, 0), 1);
        due(x.told(0, 5), 0);
        due(x.told(1, 5), 5);
    }

    @Says("a LETTER, a NUMBER (0 .. 25).")
    void promise3_leastAndMostLetterAndNumber() {
        due(x.rule(AFTER, 0, 25), 0);
        due(x.rule(AFTER, 25, 0), 1);
        due(x.told(0, 2), 0);
        due(x.told(0, 3), 25);
        due(x.told(1, 2), 25);
        due(x.told(1, 3), 0);
    }

    @Says({"RULES (6 at most", "have a KIND:"})
    void promise3_sixthHasRoom() {
        for (int kind = 0; kind < 6; kind++) {
            due(x.rule(kind, kind, 25 - kind), kind);
        }
        due(x.count(1), 6);
        for (int kind = 0; kind < 6; kind++) {
            due(x.told(kind, 5), kind);
        }
    }

    @Says("FULL.")
    void promise3_seventhHasNone() {
        sixRules();
        refused(() -> x.rule(PLAIN, 0, 0), FULL);
    }

    @Says("Refusals, the first that the call's words name;")
    void promise3_badAheadOfFull() {
        sixRules();
        refused(() -> x.rule(6, 0, 0), BAD);
        refused(() -> x.rule(0, 26, 0), BAD);
        refused(() -> x.rule(0, 0, 26), BAD);
    }

    @Says("A RULE: its number.")
    void promise3_comesNotIntoTheRow() {
        x.rule(PLAIN, 0, 0);
        due(x.count(2), 0);
    }

    // ---- 4: then

    @Says("A RULE comes behind THE ROW: how many it has.")
    void promise4_comesBehind() {
        sixRules();
        due(x.then(3), 1);
        due(x.then(5), 2);
        due(x.told(0, 4), 3);
        due(x.told(1, 4), 5);
    }

    @Says("BAD;")
    void promise4_thereAreNoRules() {
        refused(() -> x.then(0), BAD);
    }

    @Says("BAD;")
    void promise4_ruleBelow0() {
        sixRules();
        refused(() -> x.then(-1), BAD);
        refused(() -> x.then(LEAST), BAD);
    }

    @Says("BAD;")
    void promise4_ruleTooLarge() {
        x.rule(PLAIN, 0, 0);
        x.rule(PLAIN, 0, 0);
        refused(() -> x.then(2), BAD);
        refused(() -> x.then(MOST), BAD);
    }

    @Says("BAD;")
    void promise4_firstAndLastRule() {
        sixRules();
        due(x.then(0), 1);
        due(x.then(5), 2);
        refused(() -> x.then(6), BAD);
    }

    @Says("(one may stand there more often)")
    void promise4_oneMoreOften() {
        x.rule(AFTER, 1, 0);
        word("a");
        due(x.then(0), 1);
        due(x.then(0), 2);
        due(x.then(0), 3);
        same(said(0), "abbb");
    }

    @Says({"THE ROW: up to 8 RULES, one behind the other", "how many it has."})
    void promise4_eighthHasRoom() {
        sixRules();
        for (int i = 0; i < 8; i++) {
            due(x.then(i % 6), i + 1);
        }
        for (int i = 0; i < 8; i++) {
            due(x.told(i, 4), i % 6);
        }
    }

    @Says("FULL.")
    void promise4_ninthHasNone() {
        sixRules();
        row(0, 1, 2, 3, 4, 5, 4, 3);
        refused(() -> x.then(0), FULL);
    }

    @Says("Refusals, the first that the call's words name;")
    void promise4_badAheadOfFull() {
        sixRules();
        row(0, 1, 2, 3, 4, 5, 4, 3);
        refused(() -> x.then(6), BAD);
        refused(() -> x.then(-1), BAD);
    }

    // ---- 5: clear

    @Says("THE ROW is empty: how many it had.")
    void promise5_emptyHad0() {
        due(x.clear(), 0);
        due(x.count(2), 0);
    }

    @Says("how many it had.")
    void promise5_fullHad8() {
        sixRules();
        row(0, 0, 0, 0, 0, 0, 0, 0);
        due(x.clear(), 8);
        due(x.clear(), 0);
    }

    @Says("THE ROW is empty")
    void promise5_nothingTurnsThen() {
        word("ab");
        x.rule(BACK_TO_FRONT, 0, 0);
        x.then(0);
        same(said(0), "ba");
        due(x.clear(), 1);
        same(said(0), "ab");
        due(x.told(0, 4), NONE_SUCH);
    }

    @Says("THE ROW is empty")
    void promise5_roomForEightThen() {
        sixRules();
        row(0, 0, 0, 0, 0, 0, 0, 0);
        x.clear();
        for (int i = 1; i <= 8; i++) {
            due(x.then(1), i);
        }
        due(x.then(1), FULL);
    }

    @Says("THE ROW is empty")
    void promise5_rulesStay() {
        sixRules();
        x.then(0);
        x.clear();
        due(x.count(1), 6);
    }

    // ---- 6: set

    private void oneOfEach() {
        word("abc", 7);
        x.rule(AFTER, 2, 3);
        x.rule(BACK_TO_FRONT, 4, 5);
        x.then(1);
    }

    @Says({"VOWELS (what 0; of does not matter)", "becomes v: what it was."})
    void promise6_vowelsWithAnyOf() {
        due(x.set(0, LEAST, 1), FIRST_VOWELS);
        due(x.set(0, MOST, 2), 1);
        due(x.set(0, -1, 3), 2);
        due(x.told(0, 0), 3);
    }

    @Says("VOWELS: some of these (bits 0 .. 25;")
    void promise6_noVowelsAndAllVowels() {
        due(x.set(0, 0, 0), FIRST_VOWELS);
        due(x.set(0, 0, ALL_LETTERS), 0);
        due(x.set(0, 0, 1 << 25), ALL_LETTERS);
        due(x.told(0, 0), 1 << 25);
    }

    @Says("-100: none such.")
    void promise6_vowelsOfBit26() {
        refused(() -> x.set(0, 0, ALL_LETTERS + 1), NONE_SUCH);
        refused(() -> x.set(0, 0, MOST), NONE_SUCH);
    }

    @Says("-100: none such.")
    void promise6_vowelsBelow0() {
        refused(() -> x.set(0, 0, -1), NONE_SUCH);
        refused(() -> x.set(0, 0, LEAST), NONE_SUCH);
    }

    @Says("VOWELS (what 0;")
    void promise6_noVowelsTurnNothing() {
        word("aeiou");
        x.rule(AFTER, 1, 0);
        x.set(0, 0, 0);
        same(turned(0, 0), "aeiou");
    }

    @Says({"WEIGHT of a WORD (1)", "becomes v: what it was."})
    void promise6_leastAndMostWeight() {
        oneOfEach();
        due(x.set(1, 0, 99), 7);
        due(x.set(1, 0, 0), 99);
        due(x.told(0, 1), 0);
    }

    @Says("-100: none such.")
    void promise6_weightBelow0() {
        oneOfEach();
        refused(() -> x.set(1, 0, -1), NONE_SUCH);
    }

    @Says("-100: none such.")
    void promise6_weightAbove99() {
        oneOfEach();
        refused(() -> x.set(1, 0, 100), NONE_SUCH);
    }

    @Says("-100: none such.")
    void promise6_weightOfNoWord() {
        refused(() -> x.set(1, 0, 0), NONE_SUCH);
        oneOfEach();
        refused(() -> x.set(1, -1, 0), NONE_SUCH);
        refused(() -> x.set(1, 1, 0), NONE_SUCH);
        refused(() -> x.set(1, MOST, 0), NONE_SUCH);
    }

    @Says({"LETTER (2)", "becomes v: what it was."})
    void promise6_leastAndMostLetter() {
        oneOfEach();
        due(x.set(2, 0, 25), 2);
        due(x.set(2, 0, 0), 25);
        due(x.told(0, 2), 0);
        due(x.told(1, 2), 4);
    }

    @Says("-100: none such.")
    void promise6_letterBelow0() {
        oneOfEach();
        refused(() -> x.set(2, 0, -1), NONE_SUCH);
    }

    @Says("-100: none such.")
    void promise6_letterAbove25() {
        oneOfEach();
        refused(() -> x.set(2, 0, 26), NONE_SUCH);
    }

    @Says("-100: none such.")
    void promise6_letterOfNoRule() {
        refused(() -> x.set(2, 0, 0), NONE_SUCH);
        oneOfEach();
        refused(() -> x.set(2, -1, 0), NONE_SUCH);
        refused(() -> x.set(2, 2, 0), NONE_SUCH);
    }

    @Says({"NUMBER (3) of a RULE", "becomes v: what it was."})
    void promise6_leastAndMostNumber() {
        oneOfEach();
        due(x.set(3, 1, 25), 5);
        due(x.set(3, 1, 0), 25);
        due(x.told(1, 3), 0);
        due(x.told(0, 3), 3);
    }

    @Says("-100: none such.")
    void promise6_numberBelow0() {
        oneOfEach();
        refused(() -> x.set(3, 0, -1), NONE_SUCH);
    }

    @Says("-100: none such.")
    void promise6_numberAbove25() {
        oneOfEach();
        refused(() -> x.set(3, 0, 26), NONE_SUCH);
    }

    @Says("-100: none such.")
    void promise6_numberOfNoRule() {
        refused(() -> x.set(3, 0, 0), NONE_SUCH);
        oneOfEach();
        refused(() -> x.set(3, -1, 0), NONE_SUCH);
        refused(() -> x.set(3, 2, 0), NONE_SUCH);
    }

    @Says({"the RULE at a PLACE of THE ROW (4)", "becomes v: what it was."})
    void promise6_firstAndLastPlace() {
        sixRules();
        row(0, 1, 2, 3, 4, 5, 0, 1);
        due(x.set(4, 0, 5), 0);
        due(x.set(4, 7, 0), 1);
        due(x.told(0, 4), 5);
        due(x.told(7, 4), 0);
        due(x.count(2), 8);
    }

    @Says("-100: none such.")
    void promise6_placeBelow0() {
        oneOfEach();
        refused(() -> x.set(4, -1, 0), NONE_SUCH);
    }

    @Says("-100: none such.")
    void promise6_placeBehindTheRow() {
        oneOfEach();
        refused(() -> x.set(4, 1, 0), NONE_SUCH);
    }

    @Says("-100: none such.")
    void promise6_placeOfAnEmptyRow() {
        sixRules();
        refused(() -> x.set(4, 0, 0), NONE_SUCH);
    }

    @Says("-100: none such.")
    void promise6_noSuchRuleForAPlace() {
        oneOfEach();
        refused(() -> x.set(4, 0, -1), NONE_SUCH);
        refused(() -> x.set(4, 0, 2), NONE_SUCH);
    }

    @Says("becomes v: what it was.")
    void promise6_nothingElseBecomesV() {
        for (int what = 0; what < 5; what++) {
            x = new AfterEachVowel();
            oneOfEach();
            x.then(1);
            int[] due = {FIRST_VOWELS, 7, 2, 3, 1};
            due(x.set(what, 0, 0), due[what]);
            due[what] = 0;
            for (int other = 0; other < 5; other++) {
                due(x.told(0, other), due[other]);
            }
            due(x.told(1, 2), 4);
            due(x.told(1, 3), 5);
            due(x.told(1, 4), 1);
        }
    }

    @Says("-100: none such.")
    void promise6_whatBelow0() {
        oneOfEach();
        refused(() -> x.set(-1, 0, 0), NONE_SUCH);
        refused(() -> x.set(LEAST, 0, 0), NONE_SUCH);
    }

    @Says("-100: none such.")
    void promise6_whatAbove4() {
        oneOfEach();
        refused(() -> x.set(5, 0, 0), NONE_SUCH);
        refused(() -> x.set(6, 0, 1), NONE_SUCH);
        refused(() -> x.set(10, 0, 0), NONE_SUCH);
        refused(() -> x.set(MOST, 0, 0), NONE_SUCH);
    }

    // ---- 7: told

    @Says("What 0 .. 4 as of set()")
    void promise7_vowelsWithAnyOf() {
        due(x.told(LEAST, 0), FIRST_VOWELS);
        due(x.told(-1, 0), FIRST_VOWELS);
        due(x.told(MOST, 0), FIRST_VOWELS);
    }

    @Says("What 0 .. 4 as of set()")
    void promise7_asOfSet() {
        oneOfEach();
        due(x.told(0, 1), 7);
        due(x.told(1, 2), 4);
        due(x.told(1, 3), 5);
        due(x.told(0, 4), 1);
    }

    @Says({"5 KIND of a RULE", "6 how many LETTERS a WORD has"})
    void promise7_kindAndLength() {
        oneOfEach();
        word(TEN);
        due(x.told(0, 5), AFTER);
        due(x.told(1, 5), BACK_TO_FRONT);
        due(x.told(0, 6), 3);
        due(x.told(1, 6), 10);
    }

    @Says("10 .. 19 LETTER what less 10 of a WORD")
    void promise7_firstAndTenthLetter() {
        word("bcdfghjklm");
        due(x.told(0, 10), 1);
        due(x.told(0, 19), 12);
    }

    @Says("(NONE: it has fewer).")
    void promise7_letterBehindTheLast() {
        oneOfEach();
        due(x.told(0, 12), 2);
        due(x.told(0, 13), NONE);
        due(x.told(0, 19), NONE);
    }

    @Says("(NONE: it has fewer).")
    void promise7_letterBehindAWordInALongerOnesPlace() {
        x.image();
        word("bcdfghjklm");
        x.back();
        word("b");
        due(x.told(0, 10), 1);
        due(x.told(0, 11), NONE);
        due(x.told(0, 19), NONE);
    }

    @Says("-100: none such.")
    void promise7_noWordAtAll() {
        for (int what = 10; what < 20; what++) {
            due(x.told(0, what), NONE_SUCH);
        }
        due(x.told(0, 1), NONE_SUCH);
        due(x.told(0, 6), NONE_SUCH);
    }

    @Says("-100: none such.")
    void promise7_noSuchWord() {
        oneOfEach();
        for (int of : new int[] {-1, 1, LEAST, MOST}) {
            due(x.told(of, 1), NONE_SUCH);
            due(x.told(of, 6), NONE_SUCH);
            due(x.told(of, 10), NONE_SUCH);
            due(x.told(of, 19), NONE_SUCH);
        }
    }

    @Says("-100: none such.")
    void promise7_noSuchRule() {
        due(x.told(0, 2), NONE_SUCH);
        oneOfEach();
        for (int of : new int[] {-1, 2, LEAST, MOST}) {
            due(x.told(of, 2), NONE_SUCH);
            due(x.told(of, 3), NONE_SUCH);
            due(x.told(of, 5), NONE_SUCH);
        }
    }

    @Says("-100: none such.")
    void promise7_noSuchPlace() {
        oneOfEach();
        for (int of : new int[] {-1, 1, 8, LEAST, MOST}) {
            due(x.told(of, 4), NONE_SUCH);
        }
    }

    @Says("-100: none such.")
    void promise7_whatBelow0() {
        oneOfEach();
        due(x.told(0, -1), NONE_SUCH);
        due(x.told(0, LEAST), NONE_SUCH);
    }

    @Says("-100: none such.")
    void promise7_whatBetween6And10() {
        oneOfEach();
        due(x.told(0, 7), NONE_SUCH);
        due(x.told(0, 8), NONE_SUCH);
        due(x.told(0, 9), NONE_SUCH);
    }

    @Says("-100: none such.")
    void promise7_whatAbove19() {
        oneOfEach();
        word("bcdfghjklm");
        due(x.told(1, 20), NONE_SUCH);
        due(x.told(1, MOST), NONE_SUCH);
    }
}
