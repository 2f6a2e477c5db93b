/** The edges of promises 11 to 14: what is said. */
public final class EdgesOfSayingsTest extends Scene {
    public static void main(String[] args) {
        Cases.run(EdgesOfSayingsTest.class, 11, 14);
    }

    // ---- 11: said

    @Says("BAD.")
    void promise11_thereAreNoWords() {
        refused(() -> x.said(0, NONE), BAD);
        refused(() -> x.said(0, 0), BAD);
    }

    @Says("BAD.")
    void promise11_noSuchWord() {
        words("ab", "cd");
        refused(() -> x.said(-1, 0), BAD);
        refused(() -> x.said(2, 0), BAD);
        refused(() -> x.said(LEAST, 0), BAD);
        refused(() -> x.said(MOST, 0), BAD);
    }

    @Says("BAD.")
    void promise11_placeBelowNone() {
        word("ab");
        refused(() -> x.said(0, -2), BAD);
        refused(() -> x.said(0, LEAST), BAD);
    }

    @Says("BAD.")
    void promise11_placeAbove39() {
        word("ab");
        refused(() -> x.said(0, 40), BAD);
        refused(() -> x.said(0, MOST), BAD);
    }

    @Says("SAID: how many LETTERS (k NONE;")
    void promise11_howMany() {
        words("b", "bcdfghjklm");
        due(x.said(0, NONE), 1);
        due(x.said(1, NONE), 10);
    }

    @Says({"LETTER k (0 .. 39;", "NONE: it has fewer;"})
    void promise11_behindTheLastLetter() {
        word("bcd");
        due(x.said(0, 0), 1);
        due(x.said(0, 2), 3);
        due(x.said(0, 3), NONE);
        due(x.said(0, 39), NONE);
    }

    @Says("NONE: it has fewer;")
    void promise11_behindASayingThatWasLonger() {
        words(TEN, "b");
        due(x.said(0, 9), 0);
        due(x.said(1, 9), NONE);
        due(x.said(1, 1), NONE);
    }

    @Says("SAID: LETTERS of a WORD, turned by all RULES of THE ROW, one behind the other.")
    void promise11_emptyRow() {
        word("cat");
        x.rule(BACK_TO_FRONT, 0, 0);
        same(said(0), "cat");
    }

    @Says("SAID: LETTERS of a WORD, turned by all RULES of THE ROW, one behind the other.")
    void promise11_oneBehindTheOther() {
        word("a");
        x.rule(AFTER, 1, 0);
        x.rule(SHIFTED, 0, 1);
        row(0, 1);
        same(said(0), "bc");
        x.clear();
        row(1, 0);
        same(said(0), "b");
    }

    @Says("turned by all RULES of THE ROW")
    void promise11_allEightOfTheRow() {
        word("ab");
        x.rule(SHIFTED, 0, 1);
        row(0, 0, 0, 0, 0, 0, 0, 0);
        same(said(0), "ij");
    }

    /** b and seven a: each AFTER makes 7 more, each AT ENDS 8. */
    private void sevenVowels(int... kinds) {
        word("baaaaaaabb");
        x.rule(PLAIN, 0, 0);
        x.rule(AFTER, 1, 0);
        x.rule(SHIFTED, 0, 0);
        x.rule(AT_ENDS, 1, 0);
        row(kinds);
    }

    @Says("A saying may have 40 LETTERS at most.")
    void promise11_fortyByAfter() {
        sevenVowels(AT_ENDS, AT_ENDS, AFTER, AFTER);
        due(x.said(0, NONE), 40);
        due(x.said(0, 39), 1);
        due(x.said(0, 0), 1);
    }

    @Says("A saying may have 40 LETTERS at most.")
    void promise11_fortyByAtEnds() {
        sevenVowels(AFTER, AFTER, AT_ENDS, AT_ENDS);
        due(x.said(0, NONE), 40);
        due(x.said(0, 39), 1);
    }

    @Says({"What would have more than 40 LETTERS is TOO LONG: no saying at all.", "-3: TOO LONG)", "-3 likewise)."})
    void promise11_fortyOneByAfter() {
        sevenVowels(AT_ENDS, AT_ENDS, AT_ENDS, AFTER);
        due(x.said(0, NONE), STATE);
        due(x.said(0, 0), STATE);
        due(x.said(0, 39), STATE);
    }

    @Says({"What would have more than 40 LETTERS is TOO LONG: no saying at all.", "-3: TOO LONG)", "-3 likewise)."})
    void promise11_fortyOneByTheFirstAtTheEnd() {
        sevenVowels(AFTER, AT_ENDS, AT_ENDS, AT_ENDS);
        due(x.said(0, NONE), STATE);
        due(x.said(0, 0), STATE);
        due(x.said(0, 39), STATE);
    }

    @Says("What would have more than 40 LETTERS is TOO LONG: no saying at all.")
    void promise11_eightyIsTooLong() {
        word(TEN);
        x.rule(AFTER, 0, 0);
        row(0, 0, 0);
        due(x.said(0, NONE), STATE);
    }

    @Says("no saying at all.")
    void promise11_tooLongStaysSo() {
        word(TEN);
        for (int kind = 0; kind < 6; kind++) {
            x.rule(kind, 0, 1);
        }
        row(1, 1, 1);
        for (int kind = 0; kind < 5; kind++) {
            x.then(kind);
            due(x.said(0, NONE), STATE);
        }
    }

    @Says("A saying may have 40 LETTERS at most.")
    void promise11_fortyStayFortyByTheOthers() {
        word(TEN);
        for (int kind = 0; kind < 6; kind++) {
            x.rule(kind, 0, 1);
        }
        row(AFTER, AFTER, PLAIN, VOWELS_ALONE, SHIFTED, BACK_TO_FRONT);
        same(said(0), "c".repeat(40));
        x.then(AFTER);
        due(x.said(0, NONE), 40);
        x.then(AT_ENDS);
        due(x.said(0, NONE), STATE);
    }

    @Says("Refusals, the first that the call's words name;")
    void promise11_badOfATooLongWord() {
        word(TEN);
        x.rule(AFTER, 0, 0);
        row(0, 0, 0);
        refused(() -> x.said(0, 40), BAD);
        refused(() -> x.said(0, -2), BAD);
    }

    // ---- 12: turned

    @Says("BAD.")
    void promise12_noSuchWord() {
        x.rule(PLAIN, 0, 0);
        refused(() -> x.turned(0, 0, NONE), BAD);
        words("ab", "cd");
        refused(() -> x.turned(-1, 0, NONE), BAD);
        refused(() -> x.turned(2, 0, NONE), BAD);
        refused(() -> x.turned(MOST, 0, NONE), BAD);
    }

    @Says("BAD.")
    void promise12_noSuchRule() {
        word("ab");
        refused(() -> x.turned(0, 0, NONE), BAD);
        x.rule(PLAIN, 0, 0);
        refused(() -> x.turned(0, -1, NONE), BAD);
        refused(() -> x.turned(0, 1, NONE), BAD);
        refused(() -> x.turned(0, LEAST, NONE), BAD);
    }

    @Says("BAD.")
    void promise12_placeBelowNoneOrAbove39() {
        word("ab");
        x.rule(PLAIN, 0, 0);
        refused(() -> x.turned(0, 0, -2), BAD);
        refused(() -> x.turned(0, 0, 40), BAD);
        refused(() -> x.turned(0, 0, LEAST), BAD);
        refused(() -> x.turned(0, 0, MOST), BAD);
    }

    @Says("Likewise")
    void promise12_behindTheLastLetter() {
        word("bcd");
        x.rule(PLAIN, 0, 0);
        due(x.turned(0, 0, NONE), 3);
        due(x.turned(0, 0, 2), 3);
        due(x.turned(0, 0, 3), NONE);
        due(x.turned(0, 0, 39), NONE);
    }

    @Says("by one RULE alone.")
    void promise12_theRowDoesNotMatter() {
        word("ab");
        x.rule(BACK_TO_FRONT, 0, 0);
        x.rule(AFTER, 1, 0);
        row(1, 1, 1, 1, 1);
        same(turned(0, 0), "ba");
        same(turned(0, 1), "abb");
    }

    @Says("by one RULE alone.")
    void promise12_longestByOne() {
        word(TEN);
        x.rule(AT_ENDS, 0, 0);
        due(x.turned(0, 0, NONE), 21);
        due(x.turned(0, 0, 20), 0);
        due(x.turned(0, 0, 21), NONE);
    }

    @Says("TURNS (what becomes of LETTERS): PLAIN: they stay;")
    void promise12_plain() {
        words("a", "aebz");
        x.rule(PLAIN, 1, 1);
        same(turned(0, 0), "a");
        same(turned(1, 0), "aebz");
    }

    @Says("AFTER: as by PLAIN, and behind each VOWEL stands LETTER;")
    void promise12_afterWithoutVowels() {
        word("xyz");
        x.rule(AFTER, 1, 0);
        same(turned(0, 0), "xyz");
    }

    @Says("AFTER: as by PLAIN, and behind each VOWEL stands LETTER;")
    void promise12_afterOfVowelsAlone() {
        word("aeiou");
        x.rule(AFTER, 1, 0);
        same(turned(0, 0), "abebibobub");
    }

    @Says("AFTER: as by PLAIN, and behind each VOWEL stands LETTER;")
    void promise12_afterByALetterThatIsAVowel() {
        word("ab");
        x.rule(AFTER, 4, 0);
        same(turned(0, 0), "aeb");
    }

    @Says("VOWELS: some of these (bits 0 .. 25;")
    void promise12_firstAndLastLetterAsVowels() {
        word("abyz");
        x.rule(AFTER, 2, 0);
        x.set(0, 0, 1 | 1 << 25);
        same(turned(0, 0), "acbyzc");
        x.set(0, 0, 1 << 1 | 1 << 24);
        same(turned(0, 0), "abcycz");
    }

    @Says("SHIFTED: each is NUMBER further (modulo 26) than by PLAIN;")
    void promise12_shiftedBeyondZ() {
        word("ayz");
        x.rule(SHIFTED, 0, 1);
        x.rule(SHIFTED, 0, 25);
        x.rule(SHIFTED, 0, 0);
        same(turned(0, 0), "bza");
        same(turned(0, 1), "zxy");
        same(turned(0, 2), "ayz");
    }

    @Says("AT ENDS: as by AFTER, and then the first one stands at the end once more;")
    void promise12_atEndsOfOneLetter() {
        words("b", "a");
        x.rule(AT_ENDS, 25, 0);
        same(turned(0, 0), "bb");
        same(turned(1, 0), "aza");
    }

    @Says("AT ENDS: as by AFTER, and then the first one stands at the end once more;")
    void promise12_atEndsAfterALastVowel() {
        word("ba");
        x.rule(AT_ENDS, 25, 0);
        same(turned(0, 0), "bazb");
    }

    @Says("VOWELS ALONE: as by SHIFTED, but what is no VOWEL stays;")
    void promise12_vowelsAlone() {
        word("abez");
        x.rule(VOWELS_ALONE, 0, 4);
        x.rule(VOWELS_ALONE, 0, 0);
        same(turned(0, 0), "ebiz");
        same(turned(0, 1), "abez");
    }

    @Says("VOWELS ALONE: as by SHIFTED, but what is no VOWEL stays;")
    void promise12_vowelsAloneBeyondZ() {
        word("ayz");
        x.rule(VOWELS_ALONE, 0, 1);
        x.rule(VOWELS_ALONE, 0, 25);
        x.set(0, 0, 1 | 1 << 25);
        same(turned(0, 0), "bya");
        same(turned(0, 1), "zyy");
    }

    @Says("VOWELS ALONE: as by SHIFTED, but what is no VOWEL stays;")
    void promise12_vowelsAloneOfNoneAndOfAll() {
        word("xyz");
        x.rule(VOWELS_ALONE, 0, 3);
        same(turned(0, 0), "xyz");
        x.set(0, 0, ALL_LETTERS);
        same(turned(0, 0), "abc");
    }

    @Says("BACK TO FRONT: as by PLAIN, the last one first.")
    void promise12_backToFront() {
        words("b", "bc", "bcd", "bcdfghjklm");
        x.rule(BACK_TO_FRONT, 0, 0);
        same(turned(0, 0), "b");
        same(turned(1, 0), "cb");
        same(turned(2, 0), "dcb");
        same(turned(3, 0), "mlkjhgfdcb");
    }

    @Says({"a LETTER, a NUMBER (0 .. 25).", "TURNS (what becomes of LETTERS)"})
    void promise12_whatAKindDoesNotUse() {
        word("abe");
        for (int kind = 0; kind < 6; kind++) {
            boolean usesNumber = kind == SHIFTED || kind == VOWELS_ALONE;
            boolean usesLetter = kind == AFTER || kind == AT_ENDS;
            x.rule(kind, usesLetter ? 25 : 7, usesNumber ? 4 : 9);
        }
        String[] due = {"abe", "azbez", "efi", "azbeza", "ebi", "eba"};
        for (int kind = 0; kind < 6; kind++) {
            same(turned(0, kind), due[kind]);
            x.set(2, kind, kind == AFTER || kind == AT_ENDS ? 25 : 0);
            x.set(3, kind, kind == SHIFTED || kind == VOWELS_ALONE ? 4 : 25);
            same(turned(0, kind), due[kind]);
        }
    }

    // ---- 13: of

    @Says("BAD.")
    void promise13_noSuchWord() {
        for (int what = 0; what < 5; what++) {
            int asked = what;
            due(x.of(0, asked), BAD);
        }
        words("ab", "cd");
        refused(() -> x.of(-1, 0), BAD);
        refused(() -> x.of(2, 0), BAD);
        refused(() -> x.of(2, 4), BAD);
        refused(() -> x.of(LEAST, 3), BAD);
        refused(() -> x.of(MOST, 4), BAD);
    }

    @Says("BAD.")
    void promise13_whatBelow0() {
        word("ab");
        refused(() -> x.of(0, -1), BAD);
        refused(() -> x.of(0, LEAST), BAD);
    }

    @Says("BAD.")
    void promise13_whatAbove4() {
        word("ab");
        refused(() -> x.of(0, 5), BAD);
        refused(() -> x.of(0, MOST), BAD);
    }

    @Says({"Of a WORD: HARD (what 0)", "HARD of a WORD: that of the last RULE of THE ROW (v itself, if there is none);"})
    void promise13_hardWithoutARow() {
        word("ab");
        x.rule(SHIFTED, 0, 0);
        law("50", "0", "0");
        due(x.of(0, 0), 50);
        x.then(0);
        due(x.of(0, 0), 100);
    }

    @Says("HARD of a WORD: that of the last RULE of THE ROW")
    void promise13_hardByTheLastRule() {
        word("b");
        x.rule(SHIFTED, 0, 0);
        x.rule(AFTER, 0, 0);
        x.rule(PLAIN, 0, 0);
        law("50", "0", "0");
        row(0, 1);
        due(x.of(0, 0), 51);
        x.then(2);
        due(x.of(0, 0), 50);
        x.then(0);
        due(x.of(0, 0), 100);
    }

    /** By a RULE of a KIND and NUMBER 7, hard telling e. */
    private void hard(int kind, String e, int due) {
        x = new AfterEachVowel();
        word("b");
        x.rule(kind, 0, 7);
        x.then(0);
        law(e, "0", "0");
        due(x.of(0, 0), due);
    }

    @Says("HARD (to say, hard telling v, for a saying turned by it as the last RULE): PLAIN: v;")
    void promise13_hardByPlain() {
        hard(PLAIN, "0", 0);
        hard(PLAIN, "99", 99);
        hard(PLAIN, "100", 99);
        hard(PLAIN, "-1", 0);
    }

    @Says("AFTER: 1 more than a PLAIN;")
    void promise13_hardByAfter() {
        hard(AFTER, "0", 1);
        hard(AFTER, "99", 100);
        hard(AFTER, "100", 100);
        hard(AFTER, "-1", 1);
    }

    @Says("SHIFTED: twice a PLAIN's;")
    void promise13_hardByShifted() {
        hard(SHIFTED, "0", 0);
        hard(SHIFTED, "1", 2);
        hard(SHIFTED, "50", 100);
        hard(SHIFTED, "99", 198);
        hard(SHIFTED, "100", 198);
        hard(SHIFTED, "-1", 0);
    }

    @Says("AT ENDS: as an AFTER;")
    void promise13_hardByAtEnds() {
        hard(AT_ENDS, "0", 1);
        hard(AT_ENDS, "99", 100);
        hard(AT_ENDS, "100", 100);
        hard(AT_ENDS, "-1", 1);
    }

    @Says({"VOWELS ALONE: half (cut) of a SHIFTED's;", "Quotients are cut toward 0."})
    void promise13_hardByVowelsAlone() {
        hard(VOWELS_ALONE, "0", 0);
        hard(VOWELS_ALONE, "1", 1);
        hard(VOWELS_ALONE, "99", 99);
        hard(VOWELS_ALONE, "100", 99);
        hard(VOWELS_ALONE, "-1", 0);
    }

    @Says("BACK TO FRONT: NUMBER more than a PLAIN.")
    void promise13_hardByBackToFront() {
        hard(BACK_TO_FRONT, "0", 7);
        hard(BACK_TO_FRONT, "99", 106);
        hard(BACK_TO_FRONT, "100", 106);
        hard(BACK_TO_FRONT, "-1", 7);
        x.set(3, 0, 0);
        due(x.of(0, 0), 0);
        x.set(3, 0, 25);
        due(x.of(0, 0), 25);
    }

    @Says("(HARD 0 at least, in the end.)")
    void promise13_hardIsNeverBelow0() {
        for (int kind = 0; kind < 6; kind++) {
            hard(kind, "-9999*9999", kind == AFTER || kind == AT_ENDS ? 1 : kind == BACK_TO_FRONT ? 7 : 0);
        }
        x = new AfterEachVowel();
        word("b");
        law("-5", "0", "0");
        due(x.of(0, 0), 0);
    }

    /** A WORD that is TOO LONG, where all tell 50. */
    private void tooLong() {
        words(TEN, "b");
        x.rule(AFTER, 0, 0);
        x.rule(BACK_TO_FRONT, 0, 9);
        row(0, 0, 0, 1);
        law("50", "50", "50");
    }

    @Says("0, if it is TOO LONG.")
    void promise13_hardOfTooLong() {
        tooLong();
        due(x.of(0, 0), 0);
        due(x.of(1, 0), 59);
    }

    @Says({"hides (1)", "minds (2;", "1, 2: 0, if it is TOO LONG)"})
    void promise13_hidesAndMindsOfTooLong() {
        tooLong();
        due(x.of(0, 1), 0);
        due(x.of(0, 2), 0);
        due(x.of(1, 1), 50);
        due(x.of(1, 2), 50);
    }

    @Says({"ROUND (3; NONE)", "NONE (TOO LONG ahead, too)."})
    void promise13_roundOfTooLong() {
        tooLong();
        due(x.of(0, 3), NONE);
    }

    @Says("NONE (TOO LONG ahead, too).")
    void promise13_roundOfOneThatGrows() {
        words("a", "b");
        x.rule(AFTER, 1, 0);
        x.then(0);
        due(x.of(0, 3), NONE);
        due(x.of(1, 3), 1);
        x.set(2, 0, 0);
        due(x.of(0, 3), NONE);
    }

    @Says("ROUND of a WORD: the least n (1 .. 60) such that, turned by THE ROW n times over, it is as it was;")
    void promise13_roundOfAnEmptyRow() {
        word("ab");
        due(x.of(0, 3), 1);
    }

    @Says("ROUND of a WORD: the least n (1 .. 60) such that, turned by THE ROW n times over, it is as it was;")
    void promise13_leastRound() {
        words("bcd", "bcb");
        x.rule(BACK_TO_FRONT, 0, 0);
        x.then(0);
        due(x.of(0, 3), 2);
        due(x.of(1, 3), 1);
        x.then(0);
        due(x.of(0, 3), 1);
    }

    @Says("ROUND of a WORD: the least n (1 .. 60) such that, turned by THE ROW n times over, it is as it was;")
    void promise13_roundBeyondZ() {
        word("az");
        x.rule(SHIFTED, 0, 1);
        x.then(0);
        due(x.of(0, 3), 26);
        x.set(3, 0, 13);
        due(x.of(0, 3), 2);
        x.set(3, 0, 0);
        due(x.of(0, 3), 1);
    }

    @Says("the least n (1 .. 60)")
    void promise13_roundOf60() {
        // By these three c goes round in 5 steps and b in 12.
        word("cb");
        x.rule(SHIFTED, 0, 10);
        x.rule(VOWELS_ALONE, 0, 10);
        x.rule(VOWELS_ALONE, 0, 18);
        x.set(0, 0, 4739073);
        row(0, 1, 2);
        due(x.of(0, 3), 60);
    }

    @Says("NONE (TOO LONG ahead, too).")
    void promise13_roundAbove60() {
        // By these two d goes round in 7 steps and a in 9: 63 are too many.
        words("da", "d", "a");
        x.rule(SHIFTED, 0, 18);
        x.rule(VOWELS_ALONE, 0, 4);
        x.set(0, 0, 64165376);
        row(1, 0);
        due(x.of(0, 3), NONE);
        due(x.of(1, 3), 7);
        due(x.of(2, 3), 9);
    }

    @Says("NONE (TOO LONG ahead, too).")
    void promise13_neverRound() {
        word("a");
        x.rule(VOWELS_ALONE, 0, 4);
        x.then(0);
        // a, e, i, m: and m is no VOWEL
        due(x.of(0, 3), NONE);
    }

    @Says("SAFE (4).")
    void promise13_safeAlone() {
        words("b");
        due(x.of(0, 4), 1);
        x = new AfterEachVowel();
        word("bcdfghjklm");
        due(x.of(0, 4), 1023);
    }

    @Says("SAFE: of LETTERS of a WORD those (bits 0 .. 9)")
    void promise13_firstAndTenthLetterNotSafe() {
        words("bcdfghjklm", "xcdfghjklm");
        due(x.of(0, 4), 1022);
        due(x.of(1, 4), 1022);
        x = new AfterEachVowel();
        words("bcdfghjklm", "bcdfghjklx");
        due(x.of(0, 4), 511);
        due(x.of(1, 4), 511);
    }

    @Says("instead of which any other one of 0 .. 25 could stand there")
    void promise13_safeButForTheFirstOrLastLetter() {
        words("b", "a");
        due(x.of(0, 4), 0);
        x = new AfterEachVowel();
        words("b", "z");
        due(x.of(0, 4), 0);
        due(x.of(1, 4), 0);
    }

    @Says("any other one of 0 .. 25")
    void promise13_itsOwnLetterIsNoOther() {
        words("bc", "bc");
        due(x.of(0, 4), 3);
        due(x.of(1, 4), 3);
    }

    @Says("any other one of 0 .. 25")
    void promise13_noOthersThanTheLetters() {
        // 26 further than a, or 26 less than z, would be SAID as a, as z is
        words("a", "a", "zz", "zz");
        x.rule(SHIFTED, 0, 1);
        x.then(0);
        due(x.of(0, 4), 1);
        due(x.of(2, 4), 3);
    }

    @Says("and it would not be SAID as any other WORD is.")
    void promise13_safeAmongEight() {
        words("b", "cc", "cd", "xy", "fff", "ffg", "hhhh", "b");
        due(x.of(0, 4), 1);
        due(x.of(1, 4), 1);
        due(x.of(3, 4), 3);
        due(x.of(7, 4), 1);
    }

    @Says("and it would not be SAID as any other WORD is.")
    void promise13_wordsThatWentAreNoOthers() {
        words("bc");
        x.image();
        words("bd");
        due(x.of(0, 4), 1);
        x.back();
        due(x.of(0, 4), 3);
    }

    @Says("and it would not be SAID as any other WORD is.")
    void promise13_safeByWhatIsSaid() {
        // i becomes m, and m stays: ci would be SAID as cm is.
        words("bi", "cm");
        x.rule(VOWELS_ALONE, 0, 4);
        due(x.of(0, 4), 3);
        x.then(0);
        due(x.of(0, 4), 2);
    }

    @Says("and it would not be SAID as any other WORD is.")
    void promise13_tooLongIsSafe() {
        words(TEN, "aaaaaaaaae");
        due(x.of(0, 4), 511);
        x.rule(AFTER, 0, 0);
        row(0, 0, 0);
        due(x.of(0, 4), 1023);
        due(x.of(1, 4), 1023);
    }

    @Says("SAFE: of LETTERS of a WORD those (bits 0 .. 9)")
    void promise13_safeChangesNothing() {
        words("bat", "cat");
        changesNothing(() -> x.of(0, 4), 6);
        changesNothing(() -> x.of(1, 4), 6);
    }

    // ---- 14: all

    @Says("-100000: what.")
    void promise14_whatBelow0() {
        refused(() -> x.all(-1), NO_ANSWER);
        refused(() -> x.all(LEAST), NO_ANSWER);
    }

    @Says("-100000: what.")
    void promise14_whatAbove4() {
        refused(() -> x.all(5), NO_ANSWER);
        refused(() -> x.all(MOST), NO_ANSWER);
    }

    @Says({"WORTH (what 0)", "WORTH: hides less HARD of all WORDS that aren't TOO LONG, together"})
    void promise14_worthWithoutWords() {
        law("9", "99", "99");
        due(x.all(0), 0);
    }

    @Says("WORTH: hides less HARD of all WORDS that aren't TOO LONG, together")
    void promise14_worthOfEight() {
        for (int word = 0; word < 8; word++) {
            letters(0, "" + (char) ('b' + word));
            x.learn(0, 0);
        }
        law("0", "99", "0");
        due(x.all(0), 8 * 99);
        law("99", "0", "0");
        due(x.all(0), -8 * 99);
    }

    @Says("all WORDS that aren't TOO LONG")
    void promise14_worthWithoutTheTooLong() {
        tooLong();
        word(TEN);
        due(x.all(4), 5);
        due(x.all(0), 50 - 59);
    }

    @Says("less minds of each that is SAID as any other one is.")
    void promise14_worthOfThoseAlike() {
        word("b", 10);
        word("c", 20);
        due(x.all(0), -2);
        word("b", 30);
        due(x.all(0), -3 - 40);
        word("b", 50);
        due(x.all(0), -4 - 90);
    }

    @Says({"ALIKE (1)", "ALIKE: WORDS (bits) SAID as any other one is;"})
    void promise14_noneAlike() {
        due(x.all(1), 0);
        word("b");
        due(x.all(1), 0);
        words("bb", "bc");
        due(x.all(1), 0);
    }

    @Says("ALIKE: WORDS (bits) SAID as any other one is;")
    void promise14_firstAndLastAlike() {
        words("b", "c", "d", "f", "g", "h", "j", "b");
        due(x.all(1), 1 | 128);
        x = new AfterEachVowel();
        words("b", "b", "b", "b", "b", "b", "b", "b");
        due(x.all(1), 255);
    }

    @Says("ALIKE: WORDS (bits) SAID as any other one is;")
    void promise14_alikeByWhatIsSaid() {
        words("i", "m", "q");
        x.rule(VOWELS_ALONE, 0, 4);
        due(x.all(1), 0);
        x.then(0);
        due(x.all(1), 3);
    }

    @Says("no saying at all.")
    void promise14_tooLongOnesAreNotAlike() {
        words(TEN, TEN, "b");
        due(x.all(1), 3);
        x.rule(AFTER, 0, 0);
        row(0, 0);
        due(x.all(1), 3);
        x.then(0);
        due(x.all(1), 0);
    }

    @Says({"APART (2; NONE)", "(NONE: there are no such two)."})
    void promise14_apartWithoutTwo() {
        due(x.all(2), NONE);
        word("b");
        due(x.all(2), NONE);
        words("bc", "bcd");
        due(x.all(2), NONE);
    }

    @Says("APART: the least number of LETTERS that two SAID ones of the same length differ in")
    void promise14_apartOfLikeOnes() {
        words("bc", "bc");
        due(x.all(2), 0);
        word("xy");
        due(x.all(2), 0);
    }

    @Says("APART: the least number of LETTERS that two SAID ones of the same length differ in")
    void promise14_leastApart() {
        words("bcd", "xyz");
        due(x.all(2), 3);
        word("xcz");
        due(x.all(2), 1);
        x = new AfterEachVowel();
        words("bcdf", "bcgh", "x", "xxxf");
        due(x.all(2), 2);
    }

    @Says("APART: the least number of LETTERS that two SAID ones of the same length differ in")
    void promise14_apartOfEight() {
        words("b", "cc", "ddd", "ffff", "ggggg", "hhhhhh", "jjjjjjj", "kkkkkkkk");
        due(x.all(2), NONE);
        due(x.all(1), 0);
        due(x.all(4), 0);
        x = new AfterEachVowel();
        words("bcd", "cc", "dddd", "fffff", "gggggg", "hhhhhhh", "jjjjjjjj", "bdf");
        due(x.all(2), 2);
    }

    @Says("APART: the least number of LETTERS that two SAID ones of the same length differ in")
    void promise14_wordsThatWentAreNotCounted() {
        words("bcd", "xyz");
        x.image();
        words("bcz", "bcd");
        due(x.all(2), 0);
        due(x.all(1), 1 | 8);
        x.back();
        due(x.all(2), 3);
        due(x.all(1), 0);
        due(x.all(0), -6);
    }

    @Says("APART: the least number of LETTERS that two SAID ones of the same length differ in")
    void promise14_apartOfForty() {
        words("aaaaaaaaaa", "eeeeeeeeee");
        x.rule(AFTER, 0, 0);
        row(0, 0);
        // aaaa .. and eaaa ..: every fourth one differs
        due(x.all(2), 10);
        x.then(0);
        due(x.all(2), NONE);
    }

    @Says({"IDLE (3)", "IDLE: RULES (bits) each of which alone turns all WORDS into just what they are."})
    void promise14_idleWithoutRules() {
        due(x.all(3), 0);
        word("b");
        due(x.all(3), 0);
    }

    @Says("alone turns all WORDS into just what they are.")
    void promise14_idleWithoutWords() {
        for (int kind = 0; kind < 6; kind++) {
            x.rule(kind, 1, 1);
        }
        due(x.all(3), 63);
    }

    @Says("IDLE: RULES (bits) each of which alone turns all WORDS into just what they are.")
    void promise14_idleOfEachKind() {
        for (int kind = 0; kind < 6; kind++) {
            x.rule(kind, 1, 0);
        }
        word("bcb");
        due(x.all(3), 1 | 2 | 4 | 16 | 32);
        word("bc");
        due(x.all(3), 1 | 2 | 4 | 16);
        word("a");
        due(x.all(3), 1 | 4 | 16);
        x.set(3, SHIFTED, 1);
        due(x.all(3), 1 | 16);
        x.set(3, VOWELS_ALONE, 1);
        due(x.all(3), 1);
    }

    @Says("each of which alone")
    void promise14_idleWhateverTheRow() {
        word("bc");
        x.rule(BACK_TO_FRONT, 0, 0);
        x.rule(PLAIN, 0, 0);
        row(0, 0);
        due(x.all(3), 2);
        x.clear();
        x.then(0);
        due(x.all(3), 2);
    }

    @Says("WORDS that are TOO LONG (4; bits).")
    void promise14_noneTooLong() {
        due(x.all(4), 0);
        words(TEN, "b");
        x.rule(AFTER, 0, 0);
        row(0, 0);
        due(x.all(4), 0);
    }

    @Says("WORDS that are TOO LONG (4; bits).")
    void promise14_firstAndLastTooLong() {
        words(TEN, "b", "c", "d", "f", "g", "h", TEN);
        x.rule(AFTER, 0, 0);
        row(0, 0, 0);
        due(x.all(4), 1 | 128);
    }
}
