/** The edges of promises 18 to 26: what was overheard. */
public final class EdgesOfHearingTest extends Scene {
    public static void main(String[] args) {
        Cases.run(EdgesOfHearingTest.class, 18, 26);
    }

    // ---- 18: heard

    @Says("BAD: SHEET")
    void promise18_noSuchSheet() {
        refused(() -> x.heard(-1, 0), BAD);
        refused(() -> x.heard(4, 0), BAD);
        refused(() -> x.heard(LEAST, 0), BAD);
        refused(() -> x.heard(MOST, 0), BAD);
    }

    @Says("what; -11.")
    void promise18_whatBelow0OrAbove2() {
        letters(0, "b");
        refused(() -> x.heard(0, -1), BAD);
        refused(() -> x.heard(0, 3), BAD);
        refused(() -> x.heard(0, LEAST), BAD);
        refused(() -> x.heard(0, MOST), BAD);
    }

    @Says("-11.")
    void promise18_missingSheet() {
        for (int what = 0; what < 3; what++) {
            due(x.heard(0, what), NOTHING);
        }
        refused(() -> x.heard(3, 2), NOTHING);
    }

    @Says("Refusals, the first that the call's words name;")
    void promise18_badWhatAheadOfMissing() {
        refused(() -> x.heard(0, 3), BAD);
        refused(() -> x.heard(0, -1), BAD);
    }

    @Says("HEARD: WORDS (what 0), RULES (1), pairs (2).")
    void promise18_noWordsAndNoRules() {
        letters(0, "b");
        due(x.heard(0, 0), 0);
        due(x.heard(0, 1), 0);
        due(x.heard(0, 2), 0);
        x.rule(PLAIN, 0, 0);
        due(x.heard(0, 1), 0);
        due(x.heard(0, 2), 0);
        word("b");
        due(x.heard(0, 0), 1);
        due(x.heard(0, 1), 1);
        due(x.heard(0, 2), 1);
    }

    @Says("HEARD: a SHEET tells LETTERS of a saying: WORDS (bits) that are SAID just so;")
    void promise18_firstAndLastWord() {
        words("b", "c", "d", "f", "g", "h", "j", "b");
        letters(0, "b");
        due(x.heard(0, 0), 1 | 128);
    }

    @Says("WORDS (bits) that are SAID just so;")
    void promise18_byTheRow() {
        words("ab", "ba");
        x.rule(BACK_TO_FRONT, 0, 0);
        letters(0, "ab");
        due(x.heard(0, 0), 1);
        x.then(0);
        due(x.heard(0, 0), 2);
    }

    @Says("WORDS (bits) that are SAID just so;")
    void promise18_fewerOrMoreLettersAreNotJustSo() {
        word("bcd");
        x.rule(PLAIN, 0, 0);
        letters(0, "bc");
        letters(1, "bcda");
        x.sheet(2, BYTES, 0);
        for (int sheet = 0; sheet < 3; sheet++) {
            for (int what = 0; what < 3; what++) {
                due(x.heard(sheet, what), 0);
            }
        }
    }

    @Says("WORDS (bits) that are SAID just so;")
    void promise18_onlyTheFirstOrLastLetterDiffers() {
        word("bcd");
        x.rule(PLAIN, 0, 0);
        letters(0, "xcd");
        letters(1, "bcx");
        letters(2, "bcd");
        due(x.heard(0, 0), 0);
        due(x.heard(1, 0), 0);
        due(x.heard(2, 0), 1);
        due(x.heard(0, 1), 0);
        due(x.heard(1, 2), 0);
    }

    @Says("no saying at all.")
    void promise18_tooLongIsNotHeard() {
        word(TEN);
        x.rule(AFTER, 0, 0);
        row(0, 0);
        x.sheet(0, BYTES, 40);
        x.sheet(1, BYTES, 0);
        due(x.heard(0, 0), 1);
        x.then(0);
        due(x.heard(0, 0), 0);
        due(x.heard(1, 0), 0);
    }

    @Says("of sort 0 bytes, 1 shorts, 2 ints.")
    void promise18_byEachSort() {
        words("bz");
        for (int sort = 0; sort < 3; sort++) {
            numbers(0, sort, 1, 25);
            due(x.heard(0, 0), 1);
        }
        numbers(0, BYTES, 257, 25);
        due(x.heard(0, 0), 1);
        numbers(0, SHORTS, 257, 25);
        due(x.heard(0, 0), 0);
        numbers(0, INTS, 65537, 25);
        due(x.heard(0, 0), 0);
    }

    @Says("HEARD: a SHEET tells LETTERS of a saying:")
    void promise18_numbersThatAreNoLetters() {
        word("ab");
        numbers(0, INTS, -26, 27);
        due(x.heard(0, 0), 0);
        numbers(0, INTS, 26, 1);
        due(x.heard(0, 0), 0);
    }

    @Says("RULES (bits) by each of which alone any WORD would be just so;")
    void promise18_firstAndLastRule() {
        words("x", "bc");
        x.rule(PLAIN, 0, 0);
        x.rule(SHIFTED, 0, 1);
        x.rule(SHIFTED, 0, 2);
        x.rule(SHIFTED, 0, 3);
        x.rule(SHIFTED, 0, 4);
        x.rule(AFTER, 0, 0);
        letters(0, "bc");
        due(x.heard(0, 1), 1 | 32);
        row(1, 1, 1);
        due(x.heard(0, 1), 1 | 32);
    }

    @Says("how many pairs of a WORD and a RULE by which alone it would be so there are.")
    void promise18_mostPairs() {
        words("b", "b", "b", "b", "b", "b", "b", "b");
        for (int rule = 0; rule < 6; rule++) {
            x.rule(PLAIN, 0, 0);
        }
        letters(0, "b");
        due(x.heard(0, 2), 48);
        due(x.heard(0, 1), 63);
        due(x.heard(0, 0), 255);
    }

    @Says("by which alone it would be so")
    void promise18_pairsWhateverTheRow() {
        words("ab", "ba", "ab");
        x.rule(BACK_TO_FRONT, 0, 0);
        x.rule(PLAIN, 0, 0);
        row(0, 0, 0);
        letters(0, "ba");
        due(x.heard(0, 2), 3);
    }

    // ---- 19: found

    private void oneFound() {
        word("ab");
        x.rule(AFTER, 3, 2);
        x.then(0);
    }

    @Says("BAD: SHEET, WORD, RULE, what;")
    void promise19_noSuchSheet() {
        oneFound();
        refused(() -> x.found(-1, 0, 0, 0), BAD);
        refused(() -> x.found(4, 0, 0, 0), BAD);
    }

    @Says("BAD: SHEET, WORD, RULE, what;")
    void promise19_noSuchWord() {
        x.rule(AFTER, 0, 0);
        letters(0, "ab");
        refused(() -> x.found(0, 0, 0, 0), BAD);
        word("ab");
        refused(() -> x.found(0, -1, 0, 0), BAD);
        refused(() -> x.found(0, 1, 0, 0), BAD);
        refused(() -> x.found(0, MOST, 0, 0), BAD);
    }

    @Says("BAD: SHEET, WORD, RULE, what;")
    void promise19_noSuchRule() {
        word("ab");
        letters(0, "ab");
        refused(() -> x.found(0, 0, 0, 0), BAD);
        x.rule(AFTER, 0, 0);
        refused(() -> x.found(0, 0, -1, 0), BAD);
        refused(() -> x.found(0, 0, 1, 0), BAD);
        refused(() -> x.found(0, 0, LEAST, 0), BAD);
    }

    @Says("BAD: SHEET, WORD, RULE, what;")
    void promise19_whatBelow0OrAbove2() {
        oneFound();
        letters(0, "ab");
        refused(() -> x.found(0, 0, 0, -1), BAD);
        refused(() -> x.found(0, 0, 0, 3), BAD);
    }

    @Says("-11.")
    void promise19_missingSheet() {
        oneFound();
        refused(() -> x.found(0, 0, 0, 0), NOTHING);
        refused(() -> x.found(1, 0, 0, 1), NOTHING);
        refused(() -> x.found(2, 0, 0, 2), NOTHING);
    }

    @Says("Refusals, the first that the call's words name;")
    void promise19_badAheadOfMissing() {
        oneFound();
        refused(() -> x.found(0, 1, 0, 0), BAD);
        refused(() -> x.found(0, 0, 1, 0), BAD);
        refused(() -> x.found(0, 0, 0, 3), BAD);
    }

    @Says({"FOUND, of a RULE: LETTERS (what 0)", "FOUND, of a WORD, a RULE: LETTERS (bits 0 .. 25)"})
    void promise19_firstAndLastLetter() {
        oneFound();
        letters(0, "aab");
        due(x.found(0, 0, 0, 0), 1);
        letters(0, "azb");
        due(x.found(0, 0, 0, 0), 1 << 25);
        letters(0, "xzb");
        due(x.found(0, 0, 0, 0), 0);
    }

    @Says("LETTERS (bits 0 .. 25)")
    void promise19_allLetters() {
        word("xy");
        x.rule(AFTER, 3, 2);
        x.then(0);
        letters(0, "xy");
        due(x.found(0, 0, 0, 0), ALL_LETTERS);
        due(x.found(0, 0, 0, 1), ALL_LETTERS);
    }

    @Says({"NUMBERS (1)", "NUMBERS (bits 0 .. 25)"})
    void promise19_firstAndLastNumber() {
        word("az");
        x.rule(SHIFTED, 0, 7);
        x.then(0);
        letters(0, "az");
        due(x.found(0, 0, 0, 1), 1);
        letters(0, "zy");
        due(x.found(0, 0, 0, 1), 1 << 25);
        letters(0, "zz");
        due(x.found(0, 0, 0, 1), 0);
    }

    @Says("NUMBERS (bits 0 .. 25)")
    void promise19_aRuleThatStandsThereTwice() {
        word("az");
        x.rule(SHIFTED, 0, 5);
        row(0, 0);
        letters(0, "ed");
        due(x.found(0, 0, 0, 1), 1 << 2 | 1 << 15);
    }

    @Says({"KINDS (2).", "KINDS (bits 0 .. 5) by which, were they the RULE's, the WORD would be SAID as a SHEET tells."})
    void promise19_kinds() {
        word("b");
        x.rule(SHIFTED, 0, 0);
        x.then(0);
        letters(0, "b");
        due(x.found(0, 0, 0, 2), 1 | 2 | 4 | 16 | 32);
        letters(0, "bb");
        due(x.found(0, 0, 0, 2), 8);
        letters(0, "c");
        due(x.found(0, 0, 0, 2), 0);
        x.set(3, 0, 1);
        due(x.found(0, 0, 0, 2), 4);
    }

    @Says("KINDS (bits 0 .. 5)")
    void promise19_lastKind() {
        word("bc");
        x.rule(PLAIN, 0, 0);
        x.then(0);
        letters(0, "cb");
        due(x.found(0, 0, 0, 2), 32);
    }

    @Says("were they the RULE's")
    void promise19_aRuleThatIsNotInTheRow() {
        word("ab");
        x.rule(AFTER, 0, 0);
        letters(0, "ab");
        letters(1, "ac");
        due(x.found(0, 0, 0, 0), ALL_LETTERS);
        due(x.found(0, 0, 0, 1), ALL_LETTERS);
        due(x.found(0, 0, 0, 2), 63);
        due(x.found(1, 0, 0, 0), 0);
        due(x.found(1, 0, 0, 1), 0);
        due(x.found(1, 0, 0, 2), 0);
    }

    @Says("no saying at all.")
    void promise19_tooLongIsNotFound() {
        word(TEN);
        x.rule(AFTER, 0, 0);
        row(0, 0, 0);
        x.sheet(0, BYTES, 0);
        for (int what = 0; what < 3; what++) {
            due(x.found(0, 0, 0, what), 0);
        }
        x.sheet(1, BYTES, 10);
        due(x.found(1, 0, 0, 2), 1 | 4 | 16 | 32);
    }

    @Says("were they the RULE's")
    void promise19_changesNothing() {
        oneFound();
        letters(0, "adb");
        changesNothing(() -> x.found(0, 0, 0, 0), 8);
        changesNothing(() -> x.found(0, 0, 0, 1), ALL_LETTERS);
        changesNothing(() -> x.found(0, 0, 0, 2), 2);
    }

    // ---- 20: alikeTexts

    @Says({"TEXTS.", "TEXTS (bits) by which, were they THE LAW, WORTH would be as much as now."})
    void promise20_theLawItself() {
        due(x.alikeTexts(), 1);
        word("bc");
        due(x.alikeTexts(), 1);
        law("1", "0", "0");
        due(x.alikeTexts(), 2);
    }

    @Says("TEXTS (bits) by which, were they THE LAW, WORTH would be as much as now.")
    void promise20_withoutWordsAll() {
        for (int text = 1; text <= 5; text++) {
            read("hard " + text + ";hides 0;minds 0;");
        }
        due(x.alikeTexts(), 63);
    }

    @Says("TEXTS (bits)")
    void promise20_firstAndLast() {
        word("bc");
        for (int text = 1; text <= 5; text++) {
            read("hard " + (7 - text) + ";hides 0;minds 0;");
        }
        due(x.alikeTexts(), 1 | 32);
        x.force(5);
        due(x.alikeTexts(), 1 | 32);
        x.force(4);
        due(x.alikeTexts(), 16);
    }

    @Says("WORTH would be as much as now.")
    void promise20_byTheBound() {
        word("b");
        law("99", "0", "0");
        read("hard 100;hides 0;minds 5;");
        read("hard 98;hides -1;minds 0;");
        read("hard 98;hides 0-1;minds 99;");
        due(x.alikeTexts(), 2 | 4);
    }

    @Says("were they THE LAW")
    void promise20_changesNothing() {
        word("bc");
        law("2", "0", "0");
        changesNothing(() -> x.alikeTexts(), 3);
    }

    // ---- 21: film

    @Says("BAD;")
    void promise21_noSuchSheet() {
        word("ab");
        refused(() -> x.film(-1, 0), BAD);
        refused(() -> x.film(4, 0), BAD);
        refused(() -> x.film(LEAST, 0), BAD);
        refused(() -> x.film(MOST, 0), BAD);
    }

    @Says("BAD;")
    void promise21_noSuchWord() {
        refused(() -> x.film(0, 0), BAD);
        words("ab", "cd");
        refused(() -> x.film(0, -1), BAD);
        refused(() -> x.film(0, 2), BAD);
        refused(() -> x.film(0, MOST), BAD);
    }

    @Says("STATE: it is TOO LONG.")
    void promise21_tooLong() {
        word(TEN);
        x.rule(AFTER, 0, 0);
        row(0, 0, 0);
        letters(0, "xyz");
        refused(() -> x.film(0, 0), STATE);
        same(items(0), "xyz");
        refused(() -> x.film(1, 0), STATE);
    }

    @Says("Refusals, the first that the call's words name;")
    void promise21_badAheadOfTooLong() {
        word(TEN);
        x.rule(AFTER, 0, 0);
        row(0, 0, 0);
        refused(() -> x.film(4, 0), BAD);
        refused(() -> x.film(0, 1), BAD);
    }

    @Says("A SHEET truly becomes what a WORD is SAID as (bytes): how many LETTERS.")
    void promise21_missingSheetBecomesBytes() {
        word("abc");
        due(x.film(0, 0), 3);
        due(sort(0), BYTES);
        due(size(0), 3);
        same(items(0), "abc");
    }

    @Says("A SHEET truly becomes what a WORD is SAID as (bytes): how many LETTERS.")
    void promise21_sheetOfAnotherSortAndSize() {
        word("abc");
        numbers(0, INTS, 9, 9, 9, 9, 9, 9);
        due(x.film(0, 0), 3);
        due(sort(0), BYTES);
        due(size(0), 3);
        same(items(0), "abc");
        x.cell(0, 0, 256 + 1);
        same(items(0), "bbc");
    }

    @Says("what a WORD is SAID as (bytes): how many LETTERS.")
    void promise21_fortyLetters() {
        word("aaaaaaaaae");
        x.rule(AFTER, 0, 0);
        row(0, 0);
        due(x.film(0, 0), 40);
        due(size(0), 40);
        due(x.heard(0, 0), 1);
        x.cell(0, 39, 1);
        due(x.heard(0, 0), 0);
    }

    @Says("truly becomes")
    void promise21_wordStaysWhenTheSheetChanges() {
        word("abc");
        x.film(0, 0);
        x.cell(0, 0, 9);
        same(said(0), "abc");
    }

    @Says("truly becomes")
    void promise21_sheetStaysWhenTheWordIsSaidOtherwise() {
        word("abc");
        x.film(0, 0);
        x.rule(BACK_TO_FRONT, 0, 0);
        x.then(0);
        same(items(0), "abc");
    }

    // ---- 22: drawn

    /** What the document draws, by numbers of 64 bits cut to 32. */
    private static int[] draw(int seed, int rules) {
        long z = seed;
        z = (int) (z * 1103515245L + 12345L);
        int k = rules == 0 ? 0 : (int) ((z & 0xFFFFFFFFL) >> 9) % 4 + 1;
        int[] drawn = new int[k];
        for (int i = 0; i < k; i++) {
            z = (int) (z * 1103515245L + 12345L);
            drawn[i] = (int) ((z & 0xFFFFFFFFL) >> 9) % rules;
        }
        return drawn;
    }

    @Says("(without RULES: an empty ROW): WORTH.")
    void promise22_withoutRules() {
        due(x.drawn(5), 0);
        word("bcd");
        law("3", "rules+40", "0");
        due(x.drawn(0), 37);
        due(x.drawn(MOST), 37);
    }

    @Says({"DRAWN.", "DRAWN by a SEED: THE ROW would be of k RULES, k being (z >>> 9) % 4 and 1"})
    void promise22_oneToFourRules() {
        word("b");
        x.rule(PLAIN, 0, 0);
        law("0", "rules", "0");
        // z is 12345, 1103527590, -2087924461, -984409216
        due(x.drawn(0), 1);
        due(x.drawn(1), 4);
        due(x.drawn(2), 3);
        due(x.drawn(3), 2);
    }

    @Says({"z SEED * 1103515245 + 12345 (an int)", "z being z * 1103515245 + 12345 (an int) anew for each"})
    void promise22_seedsThatWrap() {
        word("b");
        for (int rule = 0; rule < 6; rule++) {
            x.rule(PLAIN, 0, rule);
        }
        law("0", "rules*10+number", "0");
        due(x.drawn(-1), 10);
        due(x.drawn(MOST), 14);
        due(x.drawn(LEAST), 15);
        due(x.drawn(77), 44);
        due(x.drawn(2), 33);
    }

    @Says("each number (z >>> 9) % m of m RULES")
    void promise22_asIfTheRowWereSo() {
        words("abcde", "oz");
        x.rule(AFTER, 1, 0);
        x.rule(SHIFTED, 0, 3);
        x.rule(AT_ENDS, 4, 9);
        x.rule(VOWELS_ALONE, 0, 5);
        x.rule(BACK_TO_FRONT, 0, 7);
        for (int seed = -20; seed < 20; seed++) {
            row(draw(seed, 5));
            int worth = x.all(0);
            x.clear();
            due(x.drawn(seed), worth);
        }
    }

    @Says("of m RULES")
    void promise22_oneRuleAndSixRules() {
        word("b");
        law("0", "number", "0");
        for (int rules = 1; rules <= 6; rules++) {
            x.rule(PLAIN, 0, 10 + rules);
            for (int seed = 0; seed < 20; seed++) {
                int[] drawn = draw(seed, rules);
                due(x.drawn(seed), 11 + drawn[drawn.length - 1]);
            }
        }
    }

    @Says("THE ROW would be of k RULES")
    void promise22_changesNothing() {
        word("b");
        x.rule(PLAIN, 0, 0);
        row(0, 0);
        changesNothing(() -> x.drawn(1), 20 - 1);
    }

    @Says("THE ROW would be of k RULES")
    void promise22_fullRowDoesNotMatter() {
        word("b");
        x.rule(PLAIN, 0, 0);
        row(0, 0, 0, 0, 0, 0, 0, 0);
        due(x.drawn(0), 5 - 1);
        due(x.drawn(1), 20 - 1);
    }

    // ---- 23: chance

    @Says("NO: n, part.")
    void promise23_nBelow1() {
        refused(() -> x.chance(0, 0, 0), AfterEachVowel.NO);
        refused(() -> x.chance(0, -1, 1), AfterEachVowel.NO);
        refused(() -> x.chance(0, LEAST, 0), AfterEachVowel.NO);
    }

    @Says("NO: n, part.")
    void promise23_nAbove20() {
        refused(() -> x.chance(0, 21, 0), AfterEachVowel.NO);
        refused(() -> x.chance(0, MOST, 1), AfterEachVowel.NO);
    }

    @Says("NO: n, part.")
    void promise23_partBelow0OrAbove1() {
        refused(() -> x.chance(0, 1, -1), AfterEachVowel.NO);
        refused(() -> x.chance(0, 1, 2), AfterEachVowel.NO);
        refused(() -> x.chance(0, 20, LEAST), AfterEachVowel.NO);
        refused(() -> x.chance(0, 20, MOST), AfterEachVowel.NO);
    }

    @Says({"IN n seeds: part 0 above, 1 below the line, in lowest terms.", "IN n seeds (1 .. 20)"})
    void promise23_allSeeds() {
        due(x.chance(0, 1, 0), 1);
        due(x.chance(0, 1, 1), 1);
        due(x.chance(0, 20, 0), 1);
        due(x.chance(0, 20, 1), 1);
    }

    @Says("in lowest terms.")
    void promise23_noSeeds() {
        words("b", "b");
        due(x.chance(0, 1, 0), 0);
        due(x.chance(0, 1, 1), 1);
        due(x.chance(0, 20, 0), 0);
        due(x.chance(0, 20, 1), 1);
    }

    /** a and e are alike by three or four of the RULE: e i, i m, m m. */
    private void alikeByThree() {
        words("a", "e");
        x.rule(VOWELS_ALONE, 0, 4);
    }

    @Says({"in lowest terms.", "of these those by which none are ALIKE."})
    void promise23_someSeeds() {
        alikeByThree();
        // the seeds 0 .. 11 draw 1, 4, 3, 2, 1, 1, 4, 3, 2, 2, 1, 4
        long[][] due = {{1, 1}, {1, 2}, {1, 3}, {1, 2}, {3, 5}, {2, 3}, {4, 7}, {1, 2}, {5, 9}, {3, 5}, {7, 11}, {7, 12}};
        for (int n = 1; n <= 12; n++) {
            due(x.chance(0, n, 0), due[n - 1][0]);
            due(x.chance(0, n, 1), due[n - 1][1]);
        }
    }

    @Says("SEED and each 1 more (an int):")
    void promise23_seedsThatWrap() {
        alikeByThree();
        int good = 0;
        for (int i = 0; i < 20; i++) {
            good += draw((int) (2147483647L - 9 + i), 1).length < 3 ? 1 : 0;
        }
        due(x.chance(MOST - 9, 20, 0) * 20, good * x.chance(MOST - 9, 20, 1));
        // the most draws 1 of them, the least behind it 1, too; the one before the most is looked at alone
        int alone = draw(MOST - 1, 1).length < 3 ? 1 : 0;
        due(x.chance(MOST - 1, 3, 0) * 3, (alone + 2) * x.chance(MOST - 1, 3, 1));
    }

    @Says("of these those by which none are ALIKE.")
    void promise23_tooLongOnesAreNotAlike() {
        words(TEN, TEN);
        x.rule(AFTER, 0, 0);
        // alike by 1 or 2 of the RULE, TOO LONG by 3 or 4: seeds 0 .. 3 draw 1, 4, 3, 2
        due(x.chance(0, 1, 0), 0);
        due(x.chance(1, 1, 0), 1);
        due(x.chance(0, 4, 0), 1);
        due(x.chance(0, 4, 1), 2);
    }

    @Says("of these those by which none are ALIKE.")
    void promise23_withoutRules() {
        words("b", "c");
        due(x.chance(0, 20, 0), 1);
        word("c");
        due(x.chance(0, 20, 0), 0);
        due(x.chance(0, 20, 1), 1);
    }

    @Says("IN n seeds")
    void promise23_changesNothing() {
        alikeByThree();
        row(0, 0, 0);
        changesNothing(() -> x.chance(0, 20, 0), x.chance(0, 20, 0));
    }

    // ---- 24: image

    @Says("AN IMAGE is kept: how many WORDS.")
    void promise24_ofNoWordsAndOfEight() {
        due(x.image(), 0);
        words("b", "c", "d", "f", "g", "h", "j", "k");
        due(x.image(), 8);
    }

    @Says("AN IMAGE is kept")
    void promise24_anotherOneIsKeptInstead() {
        word("b", 1);
        x.image();
        x.set(1, 0, 2);
        due(x.image(), 1);
        x.set(1, 0, 3);
        x.back();
        due(x.told(0, 1), 2);
    }

    @Says("AN IMAGE is kept")
    void promise24_changesNothing() {
        word("b", 1);
        x.rule(AFTER, 1, 2);
        x.then(0);
        x.feed(32);
        changesNothing(() -> x.image(), 1);
    }

    @Says("AN IMAGE keeps VOWELS, all of WORDS, LETTERS and NUMBERS of RULES, THE ROW, THE LAW")
    void promise24_isNotChangedAfterwards() {
        word("b", 1);
        x.rule(AFTER, 2, 3);
        x.then(0);
        x.image();
        String kept = whole();
        for (int times = 0; times < 2; times++) {
            x.set(0, 0, 9);
            x.set(1, 0, 9);
            x.set(2, 0, 9);
            x.set(3, 0, 9);
            x.clear();
            x.back();
            same(whole(), kept);
        }
    }

    // ---- 25: back

    @Says("STATE: there is none.")
    void promise25_thereIsNone() {
        refused(() -> x.back(), STATE);
        word("b");
        refused(() -> x.back(), STATE);
    }

    @Says("All that it keeps is as in THE IMAGE: how many WORDS.")
    void promise25_toNoWords() {
        x.image();
        words("b", "c");
        x.rule(PLAIN, 0, 0);
        x.then(0);
        due(x.back(), 0);
        due(x.count(0), 0);
        due(x.count(1), 0);
        due(x.count(2), 0);
        due(x.said(0, 0), BAD);
    }

    @Says("how many WORDS.")
    void promise25_toEightWords() {
        words("b", "c", "d", "f", "g", "h", "j", "k");
        x.image();
        due(x.back(), 8);
        due(x.told(7, 10), 10);
        due(x.learn(3, 0), FULL);
    }

    @Says("All that it keeps is as in THE IMAGE")
    void promise25_moreThanOnce() {
        word("b");
        x.image();
        for (int times = 0; times < 3; times++) {
            word("c");
            x.rule(PLAIN, 0, 0);
            due(x.back(), 1);
            due(x.count(0), 1);
            due(x.count(1), 0);
        }
    }

    @Says("AN IMAGE keeps VOWELS")
    void promise25_vowels() {
        x.set(0, 0, 5);
        x.image();
        x.set(0, 0, 0);
        x.back();
        due(x.told(0, 0), 5);
    }

    @Says("all of WORDS")
    void promise25_wordsAreAsTheyWere() {
        word("bcd", 40);
        x.image();
        x.set(1, 0, 50);
        x.back();
        due(x.told(0, 1), 40);
        same(said(0), "bcd");
    }

    @Says("all of WORDS")
    void promise25_aWordInAnotherOnesPlace() {
        x.image();
        word("bcd", 40);
        x.back();
        due(word("xy", 7), 0);
        same(said(0), "xy");
        due(x.told(0, 1), 7);
        x.image();
        x.back();
        same(said(0), "xy");
    }

    @Says("LETTERS and NUMBERS of RULES")
    void promise25_lettersAndNumbersOfRules() {
        x.rule(AFTER, 1, 2);
        x.rule(SHIFTED, 3, 4);
        x.image();
        x.set(2, 0, 11);
        x.set(3, 0, 12);
        x.set(2, 1, 13);
        x.set(3, 1, 14);
        x.back();
        due(x.told(0, 2), 1);
        due(x.told(0, 3), 2);
        due(x.told(1, 2), 3);
        due(x.told(1, 3), 4);
        due(x.told(0, 5), AFTER);
        due(x.told(1, 5), SHIFTED);
    }

    @Says("THE ROW, THE LAW")
    void promise25_theRow() {
        x.rule(PLAIN, 0, 0);
        x.rule(PLAIN, 0, 0);
        row(0, 1, 0, 1, 0, 1, 0, 1);
        x.image();
        x.clear();
        row(1, 1);
        x.back();
        due(x.count(2), 8);
        for (int place = 0; place < 8; place++) {
            due(x.told(place, 4), place % 2);
        }
        x.clear();
        x.image();
        row(0, 0);
        x.back();
        due(x.count(2), 0);
    }

    @Says("THE ROW, THE LAW")
    void promise25_theLaw() {
        x.image();
        law("1", "1", "1");
        x.back();
        due(x.count(5), 0);
        x.force(1);
        x.image();
        x.force(0);
        x.back();
        due(x.count(5), 1);
    }

    @Says("(RULES, WORDS that came since go).")
    void promise25_whatCameSinceGoes() {
        word("b");
        x.rule(PLAIN, 0, 0);
        x.image();
        word("c");
        x.rule(AFTER, 0, 0);
        x.then(1);
        x.back();
        due(x.count(0), 1);
        due(x.count(1), 1);
        due(x.told(1, 1), NONE_SUCH);
        due(x.told(1, 5), NONE_SUCH);
        due(x.then(1), BAD);
        due(x.rule(BACK_TO_FRONT, 0, 0), 1);
        due(x.told(1, 5), BACK_TO_FRONT);
    }

    @Says("(RULES, WORDS that came since go).")
    void promise25_roomAgain() {
        x.image();
        words("b", "c", "d", "f", "g", "h", "j", "k");
        for (int rule = 0; rule < 6; rule++) {
            x.rule(PLAIN, 0, 0);
        }
        due(x.learn(3, 0), FULL);
        due(x.rule(PLAIN, 0, 0), FULL);
        x.back();
        due(x.learn(3, 0), 0);
        due(x.rule(PLAIN, 0, 0), 0);
    }

    @Says("All that it keeps is as in THE IMAGE")
    void promise25_whatItDoesNotKeepStays() {
        x.image();
        read("hard 1;hides 1;minds 1;");
        feed("hard");
        numbers(0, INTS, 1, 2, 3);
        x.back();
        due(x.count(3), 2);
        due(x.count(4), 4);
        due(sort(0), INTS);
        same(items(0), "bcd");
    }

    // ---- 26: count

    @Says("BAD.")
    void promise26_whatBelow0() {
        refused(() -> x.count(-1), BAD);
        refused(() -> x.count(LEAST), BAD);
    }

    @Says("BAD.")
    void promise26_whatAbove5() {
        refused(() -> x.count(6), BAD);
        refused(() -> x.count(MOST), BAD);
    }

    @Says("How many: 0 WORDS, 1 RULES, 2 in THE ROW, 3 TEXTS, 4 bytes of THE TAPE, 5 THE LAW.")
    void promise26_leastOfEach() {
        int[] due = {0, 0, 0, 1, 0, 0};
        for (int what = 0; what < 6; what++) {
            due(x.count(what), due[what]);
        }
    }

    @Says("How many: 0 WORDS, 1 RULES, 2 in THE ROW, 3 TEXTS, 4 bytes of THE TAPE, 5 THE LAW.")
    void promise26_mostOfEach() {
        words("b", "c", "d", "f", "g", "h", "j", "k");
        for (int rule = 0; rule < 6; rule++) {
            x.rule(PLAIN, 0, 0);
        }
        row(0, 0, 0, 0, 0, 0, 0, 0);
        for (int text = 0; text < 5; text++) {
            law("1", "1", "1");
        }
        feed(" ".repeat(160));
        int[] due = {8, 6, 8, 6, 160, 5};
        for (int what = 0; what < 6; what++) {
            due(x.count(what), due[what]);
        }
        word("b");
        x.rule(PLAIN, 0, 0);
        x.then(0);
        x.text();
        x.feed(32);
        for (int what = 0; what < 6; what++) {
            due(x.count(what), due[what]);
        }
    }
}
