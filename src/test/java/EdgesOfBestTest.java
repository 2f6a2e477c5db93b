/** The edges of promises 15 to 17: what would be best. */
public final class EdgesOfBestTest extends Scene {
    public static void main(String[] args) {
        Cases.run(EdgesOfBestTest.class, 15, 17);
    }

    /** PLAIN rules of these NUMBERS, and WORTH is less that of the last one of THE ROW. */
    private void lastNumberIsHard(int... numbers) {
        word("b");
        for (int number : numbers) {
            x.rule(PLAIN, 0, number);
        }
        law("number", "0", "0");
    }

    // ---- 15: leave

    @Says("-100000: what.")
    void promise15_whatBelow0() {
        refused(() -> x.leave(-1), NO_ANSWER);
        refused(() -> x.leave(LEAST), NO_ANSWER);
    }

    @Says("-100000: what.")
    void promise15_whatAbove1() {
        refused(() -> x.leave(2), NO_ANSWER);
        refused(() -> x.leave(MOST), NO_ANSWER);
    }

    @Says({"LEAVE OUT (what 0; NONE)", "WORTH then (1; as now, if none)."})
    void promise15_emptyRow() {
        due(x.leave(0), NONE);
        due(x.leave(1), 0);
        word("bc");
        due(x.leave(0), NONE);
        due(x.leave(1), -2);
    }

    @Says({"if more than now;", "WORTH then (1; as now, if none)."})
    void promise15_asMuchIsNotMore() {
        lastNumberIsHard(3, 3);
        row(0, 1);
        due(x.all(0), -3);
        due(x.leave(0), NONE);
        due(x.leave(1), -3);
    }

    @Says({"if more than now;", "as now, if none)."})
    void promise15_lessIsNotMore() {
        word("b");
        x.rule(PLAIN, 0, 0);
        x.then(0);
        due(x.all(0), 4);
        due(x.leave(0), NONE);
        due(x.leave(1), 4);
    }

    @Says("LEAVE OUT: the PLACE of THE ROW (from 0) without which WORTH would be most")
    void promise15_oneMoreIsMore() {
        lastNumberIsHard(2, 3);
        row(0, 1);
        due(x.leave(0), 1);
        due(x.leave(1), -2);
    }

    @Says("LEAVE OUT: the PLACE of THE ROW (from 0) without which WORTH would be most")
    void promise15_theOnlyPlace() {
        lastNumberIsHard(9);
        x.then(0);
        due(x.leave(0), 0);
        due(x.leave(1), 0);
    }

    @Says("of like ones the first; NONE.")
    void promise15_firstOfLikeOnes() {
        word("b");
        x.rule(PLAIN, 0, 0);
        law("rules*rules", "0", "0");
        row(0, 0, 0, 0, 0, 0, 0, 0);
        due(x.leave(0), 0);
        due(x.leave(1), -49);
    }

    @Says("the PLACE of THE ROW (from 0) without which WORTH would be most")
    void promise15_lastOfEightPlaces() {
        lastNumberIsHard(1, 9);
        row(0, 0, 0, 0, 0, 0, 0, 1);
        due(x.leave(0), 7);
        due(x.leave(1), -1);
    }

    @Says("without which WORTH would be most")
    void promise15_mostOfSeveralThatAreMore() {
        // 5 letters; without the first RULE 4 (abab), without the second (abb) or the third (aab) 3
        word("a");
        x.set(0, 0, 1);
        x.rule(AFTER, 1, 0);
        x.rule(AFTER, 0, 0);
        x.rule(PLAIN, 0, 0);
        row(0, 1, 0, 2);
        same(said(0), "ababb");
        law("long", "0", "0");
        due(x.leave(0), 1);
        due(x.leave(1), -3);
    }

    @Says("WORTH would be most")
    void promise15_withoutItNoLongerTooLong() {
        word(TEN);
        x.rule(AFTER, 0, 0);
        row(0, 0, 0);
        law("0", "7", "0");
        due(x.all(0), 0);
        due(x.leave(0), 0);
        due(x.leave(1), 7 - 1);
        law("0", "1", "0");
        due(x.leave(0), NONE);
        due(x.leave(1), 0);
    }

    @Says("LEAVE OUT (what 0; NONE)")
    void promise15_changesNothing() {
        lastNumberIsHard(1, 9);
        row(0, 1, 1);
        changesNothing(() -> x.leave(0), NONE);
        x.set(4, 1, 0);
        changesNothing(() -> x.leave(0), 2);
        changesNothing(() -> x.leave(1), -1);
    }

    // ---- 16: order

    @Says("-100000: what.")
    void promise16_whatBelow0() {
        refused(() -> x.order(-1), NO_ANSWER);
        refused(() -> x.order(LEAST), NO_ANSWER);
    }

    @Says("-100000: what.")
    void promise16_whatAbove1() {
        refused(() -> x.order(2), NO_ANSWER);
        refused(() -> x.order(MOST), NO_ANSWER);
    }

    @Says("0: there are none).")
    void promise16_noRules() {
        due(x.order(0), 0);
        due(x.order(1), 0);
        word("bc");
        due(x.order(0), -2);
        due(x.order(1), 0);
        law("0", "rules*10+number+40", "0");
        due(x.order(0), 40);
    }

    @Says("0: there are none).")
    void promise16_noRulesAnyMore() {
        word("bc");
        x.image();
        x.rule(BACK_TO_FRONT, 0, 9);
        x.then(0);
        due(x.order(0), 5 - 2 - 9);
        x.back();
        due(x.order(0), -2);
        due(x.order(1), 0);
    }

    @Says({"ORDER: WORTH (what 0)", "the RULES as digits, 1 more than each, the first the highest (1;"})
    void promise16_oneRule() {
        word("bc");
        x.rule(SHIFTED, 0, 5);
        due(x.order(0), 5 - 4);
        due(x.order(1), 1);
    }

    @Says("of like ones the first (by numbers).")
    void promise16_firstOfLikeOnes() {
        for (int rule = 0; rule < 6; rule++) {
            x.rule(PLAIN, 0, 0);
        }
        due(x.order(1), 123456);
        due(x.order(0), 0);
    }

    @Says("the first the highest (1;")
    void promise16_digitsOfSix() {
        lastNumberIsHard(0, 9, 9, 9, 9, 9);
        due(x.order(1), 234561);
        due(x.order(0), 0);
    }

    @Says("of like ones the first (by numbers).")
    void promise16_firstOfThoseOfMostWorth() {
        lastNumberIsHard(5, 0, 3);
        due(x.order(1), 132);
        due(x.order(0), 0);
    }

    @Says("ORDER: of all ways to have all RULES in THE ROW, each once, that of most WORTH;")
    void promise16_theLastWay() {
        word("a");
        x.rule(AFTER, 1, 0);
        x.rule(SHIFTED, 0, 1);
        law("long", "0", "0");
        // ab, bc: twice 2; b: 1 and 1
        due(x.order(1), 21);
        due(x.order(0), -2);
    }

    @Says("all RULES in THE ROW, each once")
    void promise16_eachOnce() {
        word("b");
        for (int rule = 0; rule < 6; rule++) {
            x.rule(PLAIN, 0, 0);
        }
        law("0", "rules", "0");
        due(x.order(0), 6);
        x.then(0);
        due(x.order(0), 6);
    }

    @Says("ORDER: of all ways to have all RULES in THE ROW, each once, that of most WORTH;")
    void promise16_tooLongOnTheWay() {
        // SHIFTED makes b of a, and then none grows: by it as the last one only it is TOO LONG.
        word(TEN);
        x.rule(SHIFTED, 0, 1);
        x.rule(AFTER, 0, 0);
        x.rule(AFTER, 0, 0);
        x.rule(AFTER, 0, 0);
        law("50", "0", "0");
        due(x.order(1), 2341);
        due(x.order(0), 0);
    }

    @Says("that of most WORTH;")
    void promise16_wordsOfOneLetter() {
        words("z", "k");
        x.rule(PLAIN, 0, 0);
        x.rule(SHIFTED, 0, 1);
        law("0", "vowels*9", "0");
        // a and l
        due(x.order(0), 9);
        due(x.order(1), 12);
    }

    @Says("that of most WORTH;")
    void promise16_eightWords() {
        words("b", "c", "d", "f", "g", "h", "j", "aa");
        x.rule(AFTER, 0, 0);
        x.rule(PLAIN, 0, 0);
        // as the last one AFTER makes all 1 harder
        due(x.order(0), 8 * 10 - 7 - 8);
        due(x.order(1), 12);
    }

    @Says("that of most WORTH;")
    void promise16_worthBelow0() {
        lastNumberIsHard(9, 8, 7);
        due(x.order(0), -7);
        due(x.order(1), 123);
    }

    @Says("ORDER: of all ways")
    void promise16_changesNothing() {
        lastNumberIsHard(1, 9);
        row(1, 1);
        changesNothing(() -> x.order(0), -1);
        changesNothing(() -> x.order(1), 21);
    }

    // ---- 17: letter

    @Says("-100000: what")
    void promise17_whatBelow0OrAbove1() {
        x.rule(AFTER, 0, 0);
        refused(() -> x.letter(0, -1), NO_ANSWER);
        refused(() -> x.letter(0, 2), NO_ANSWER);
        refused(() -> x.letter(0, LEAST), NO_ANSWER);
        refused(() -> x.letter(0, MOST), NO_ANSWER);
    }

    @Says("no such RULE.")
    void promise17_noSuchRule() {
        refused(() -> x.letter(0, 0), NO_ANSWER);
        x.rule(AFTER, 0, 0);
        refused(() -> x.letter(-1, 0), NO_ANSWER);
        refused(() -> x.letter(1, 0), NO_ANSWER);
        refused(() -> x.letter(1, 1), NO_ANSWER);
        refused(() -> x.letter(LEAST, 0), NO_ANSWER);
        refused(() -> x.letter(MOST, 1), NO_ANSWER);
    }

    @Says("of like ones the least.")
    void promise17_leastOfLikeOnes() {
        x.rule(AFTER, 25, 0);
        due(x.letter(0, 0), 0);
        due(x.letter(0, 1), 0);
        word("ab");
        due(x.letter(0, 0), 0);
        due(x.letter(0, 1), -3);
    }

    @Says("were it its own, WORTH would be most;")
    void promise17_aRuleThatIsNotInTheRow() {
        word("ab");
        x.rule(AFTER, 5, 0);
        x.rule(PLAIN, 0, 0);
        x.then(1);
        due(x.letter(0, 0), 0);
        due(x.letter(0, 1), 5 - 3);
    }

    @Says({"BEST LETTER (what 0)", "WORTH then (1)."})
    void promise17_firstThatIsNoVowel() {
        word("a");
        x.rule(AFTER, 0, 0);
        x.then(0);
        due(x.letter(0, 0), 1);
        due(x.letter(0, 1), 5 - 4);
    }

    @Says("BEST LETTER of a RULE: the LETTER by which, were it its own, WORTH would be most;")
    void promise17_lastLetter() {
        word("a");
        x.rule(AFTER, 7, 0);
        x.then(0);
        x.set(0, 0, ALL_LETTERS - (1 << 25));
        due(x.letter(0, 0), 25);
        due(x.letter(0, 1), 5 - 4);
        due(x.told(0, 2), 7);
    }

    @Says("BEST LETTER of a RULE: the LETTER by which, were it its own, WORTH would be most;")
    void promise17_allLettersAreVowels() {
        word("a");
        x.rule(AFTER, 7, 0);
        x.then(0);
        x.set(0, 0, ALL_LETTERS);
        due(x.letter(0, 0), 0);
        due(x.letter(0, 1), 5 - 5);
    }

    @Says("BEST LETTER of a RULE: the LETTER by which, were it its own, WORTH would be most;")
    void promise17_tooLongByOneLetterAlone() {
        word("eeeeeeeeee");
        x.set(0, 0, 1 << 4);
        x.rule(AFTER, 0, 0);
        row(0, 0, 0);
        law("50", "0", "0");
        due(x.all(0), -51);
        due(x.letter(0, 0), 4);
        due(x.letter(0, 1), 0);
    }

    @Says("were it its own")
    void promise17_changesNothing() {
        word("a");
        x.rule(AFTER, 7, 0);
        x.rule(AFTER, 8, 0);
        row(0, 1);
        changesNothing(() -> x.letter(0, 0), 1);
        changesNothing(() -> x.letter(1, 1), 10 - 5);
    }
}
