/** The edges of promises 27 to 31: the host. */
public final class EdgesOfHostTest extends Scene {
    public static void main(String[] args) {
        Cases.run(EdgesOfHostTest.class, 27, 31);
    }

    // ---- 27: sheet

    @Says("BAD: no such SHEET")
    void promise27_sheetBelow0() {
        refused(() -> x.sheet(-1, BYTES, 1), BAD);
        refused(() -> x.sheet(LEAST, BYTES, 1), BAD);
        refused(() -> x.sheet(-1, MISSING, 1), BAD);
    }

    @Says("BAD: no such SHEET")
    void promise27_sheetAbove3() {
        refused(() -> x.sheet(4, BYTES, 1), BAD);
        refused(() -> x.sheet(MOST, BYTES, 1), BAD);
        refused(() -> x.sheet(4, MISSING, 1), BAD);
    }

    @Says("sort; n above 40;")
    void promise27_sortBelowMissing() {
        refused(() -> x.sheet(0, -2, 1), BAD);
        refused(() -> x.sheet(0, LEAST, 1), BAD);
    }

    @Says("sort; n above 40;")
    void promise27_sortAboveInts() {
        refused(() -> x.sheet(0, 3, 1), BAD);
        refused(() -> x.sheet(0, MOST, 1), BAD);
    }

    @Says("n above 40;")
    void promise27_fortyOneItems() {
        x.sheet(0, SHORTS, 5);
        refused(() -> x.sheet(0, BYTES, 41), BAD);
        refused(() -> x.sheet(0, INTS, MOST), BAD);
        refused(() -> x.sheet(1, INTS, 41), BAD);
    }

    @Says({"-14.", "-14 a size below 0."})
    void promise27_sizeBelow0() {
        x.sheet(0, SHORTS, 5);
        refused(() -> x.sheet(0, BYTES, -1), BELOW_ZERO);
        refused(() -> x.sheet(0, INTS, LEAST), BELOW_ZERO);
        refused(() -> x.sheet(1, SHORTS, -1), BELOW_ZERO);
    }

    @Says("Refusals, the first that the call's words name;")
    void promise27_badAheadOfSizeBelow0() {
        refused(() -> x.sheet(4, BYTES, -1), BAD);
        refused(() -> x.sheet(0, 3, -1), BAD);
        refused(() -> x.sheet(0, -2, -1), BAD);
    }

    @Says("A SHEET becomes a row of n of a sort, all 0")
    void promise27_noItems() {
        for (int sort = 0; sort < 3; sort++) {
            due(x.sheet(0, sort, 0), 1);
            due(sort(0), sort);
            due(size(0), 0);
            due(x.cell(0, 0, 0), OUTSIDE);
        }
    }

    @Says({"A SHEET becomes a row of n of a sort, all 0", "SHEETS 0 .. 3 are rows of numbers"})
    void promise27_fortyItems() {
        for (int sheet = 0; sheet < 4; sheet++) {
            due(x.sheet(sheet, sheet % 3, 40), 1);
            due(sort(sheet), sheet % 3);
            due(size(sheet), 40);
            due(x.cell(sheet, 39, 0), 1);
            due(x.cell(sheet, 40, 0), OUTSIDE);
        }
    }

    @Says("all 0")
    void promise27_all0() {
        for (int sort = 0; sort < 3; sort++) {
            x.sheet(sort, sort, 10);
            same(items(sort), TEN);
        }
    }

    @Says("all 0")
    void promise27_all0Anew() {
        for (int sort = 0; sort < 3; sort++) {
            numbers(0, sort, 9, 9, 9);
            x.sheet(0, sort, 3);
            same(items(0), "aaa");
        }
        numbers(0, INTS, 9, 9, 9);
        x.sheet(0, INTS, 1);
        x.sheet(0, INTS, 3);
        same(items(0), "aaa");
    }

    @Says("or missing (sort -1: n does not matter): 1.")
    void promise27_missingWithAnySize() {
        for (int n : new int[] {0, -1, 41, LEAST, MOST}) {
            x.sheet(0, BYTES, 3);
            due(x.sheet(0, MISSING, n), 1);
            due(x.cell(0, 0, 0), NOTHING);
        }
        due(x.sheet(0, MISSING, 0), 1);
        due(x.cell(0, 0, 0), NOTHING);
    }

    @Says("SHEETS 0 .. 3 are rows of numbers")
    void promise27_sheetsAreApart() {
        letters(0, "bb");
        letters(3, "ccc");
        x.sheet(1, MISSING, 0);
        x.sheet(2, INTS, 40);
        same(items(0), "bb");
        same(items(3), "ccc");
    }

    // ---- 28: cell

    @Says("BAD: no such SHEET;")
    void promise28_noSuchSheet() {
        refused(() -> x.cell(-1, 0, 0), BAD);
        refused(() -> x.cell(4, 0, 0), BAD);
        refused(() -> x.cell(LEAST, 0, 0), BAD);
        refused(() -> x.cell(MOST, 0, 0), BAD);
    }

    @Says({"-11;", "-11 nothing where something is asked"})
    void promise28_missingSheet() {
        refused(() -> x.cell(0, 0, 0), NOTHING);
        x.sheet(3, BYTES, 3);
        x.sheet(3, MISSING, 3);
        refused(() -> x.cell(3, 0, 0), NOTHING);
    }

    @Says("Refusals, the first that the call's words name;")
    void promise28_missingAheadOfOutside() {
        refused(() -> x.cell(0, -1, 0), NOTHING);
        refused(() -> x.cell(0, 40, 0), NOTHING);
    }

    @Says({"-12.", "-12 a place outside"})
    void promise28_itemBelow0() {
        letters(0, "bcd");
        refused(() -> x.cell(0, -1, 0), OUTSIDE);
        refused(() -> x.cell(0, LEAST, 0), OUTSIDE);
        same(items(0), "bcd");
    }

    @Says({"-12.", "-12 a place outside"})
    void promise28_itemBehindTheLast() {
        letters(0, "bcd");
        refused(() -> x.cell(0, 3, 0), OUTSIDE);
        refused(() -> x.cell(0, 40, 0), OUTSIDE);
        refused(() -> x.cell(0, MOST, 0), OUTSIDE);
        same(items(0), "bcd");
    }

    @Says("-12.")
    void promise28_itemOfAnEmptySheet() {
        x.sheet(0, INTS, 0);
        refused(() -> x.cell(0, 0, 0), OUTSIDE);
    }

    @Says("Item i of a SHEET becomes v")
    void promise28_firstAndLastItem() {
        x.sheet(0, BYTES, 10);
        due(x.cell(0, 0, 1), 1);
        due(x.cell(0, 9, 25), 1);
        same(items(0), "baaaaaaaaz");
        x.sheet(1, INTS, 40);
        due(x.cell(1, 39, MOST), 1);
    }

    @Says("(of bytes, shorts its lowest 8, 16 bits): 1.")
    void promise28_lowest8BitsOfBytes() {
        x.sheet(0, BYTES, 4);
        due(x.cell(0, 0, 256), 1);
        due(x.cell(0, 1, 65536 + 1), 1);
        due(x.cell(0, 2, -254), 1);
        due(x.cell(0, 3, LEAST + 3), 1);
        same(items(0), "abcd");
    }

    @Says("(of bytes, shorts its lowest 8, 16 bits): 1.")
    void promise28_lowest16BitsOfShorts() {
        x.sheet(0, SHORTS, 4);
        due(x.cell(0, 0, 65536), 1);
        due(x.cell(0, 1, 131072 + 1), 1);
        due(x.cell(0, 2, -65534), 1);
        due(x.cell(0, 3, LEAST + 3), 1);
        same(items(0), "abcd");
        x.cell(0, 0, 256);
        due(x.learn(0, 0), BAD);
    }

    @Says("Item i of a SHEET becomes v")
    void promise28_allBitsOfInts() {
        x.sheet(0, INTS, 1);
        for (int v : new int[] {256, 65536, -254, -65534, LEAST, LEAST + 3}) {
            due(x.cell(0, 0, v), 1);
            due(x.learn(0, 0), BAD);
        }
    }

    @Says("of bytes")
    void promise28_bytesAboveTheLetters() {
        x.sheet(0, BYTES, 1);
        for (int v : new int[] {26, 127, 128, 255, -1, -128}) {
            due(x.cell(0, 0, v), 1);
            due(x.learn(0, 0), BAD);
        }
    }

    // ---- 29: copy

    @Says("BAD: no such SHEET;")
    void promise29_noSuchSheet() {
        letters(0, "bcd");
        refused(() -> x.copy(-1, 0, 0, 0, 1), BAD);
        refused(() -> x.copy(4, 0, 0, 0, 1), BAD);
        refused(() -> x.copy(0, 0, -1, 0, 1), BAD);
        refused(() -> x.copy(0, 0, 4, 0, 1), BAD);
    }

    @Says("-11;")
    void promise29_oneOrBothMissing() {
        letters(0, "bcd");
        refused(() -> x.copy(0, 0, 1, 0, 1), NOTHING);
        refused(() -> x.copy(1, 0, 0, 0, 1), NOTHING);
        refused(() -> x.copy(1, 0, 2, 0, 1), NOTHING);
        refused(() -> x.copy(1, 0, 1, 0, 0), NOTHING);
        same(items(0), "bcd");
    }

    @Says("-13: they are of unlike sorts;")
    void promise29_unlikeSorts() {
        for (int sort = 0; sort < 3; sort++) {
            x = new AfterEachVowel();
            int from = sort;
            int to = (sort + 1) % 3;
            numbers(from, from, 1, 2, 3);
            numbers(to, to, 4, 5, 6);
            refused(() -> x.copy(from, 0, to, 0, 1), OTHER_SORT);
            refused(() -> x.copy(to, 0, from, 0, 1), OTHER_SORT);
            refused(() -> x.copy(from, 0, to, 0, 0), OTHER_SORT);
        }
    }

    @Says("Refusals, the first that the call's words name;")
    void promise29_orderOfRefusals() {
        letters(0, "bcd");
        numbers(1, INTS, 1, 2, 3);
        refused(() -> x.copy(4, -1, 2, 0, -1), BAD);
        refused(() -> x.copy(2, 0, 4, 0, 1), BAD);
        refused(() -> x.copy(0, -1, 2, 0, -1), NOTHING);
        refused(() -> x.copy(2, 9, 1, 9, 9), NOTHING);
        refused(() -> x.copy(0, -1, 1, 0, 1), OTHER_SORT);
        refused(() -> x.copy(0, 0, 1, 0, -1), OTHER_SORT);
    }

    @Says("-12 (also with n below 0).")
    void promise29_nBelow0() {
        letters(0, "bcd");
        letters(1, "xyz");
        refused(() -> x.copy(0, 1, 1, 1, -1), OUTSIDE);
        refused(() -> x.copy(0, 3, 1, 3, LEAST), OUTSIDE);
        same(items(1), "xyz");
    }

    @Says("-12")
    void promise29_fromBelow0() {
        letters(0, "bcd");
        letters(1, "xyz");
        refused(() -> x.copy(0, -1, 1, 0, 2), OUTSIDE);
        refused(() -> x.copy(0, -1, 1, 0, 0), OUTSIDE);
        refused(() -> x.copy(0, LEAST, 1, 0, 1), OUTSIDE);
        same(items(1), "xyz");
    }

    @Says("-12")
    void promise29_toBelow0() {
        letters(0, "bcd");
        letters(1, "xyz");
        refused(() -> x.copy(0, 0, 1, -1, 2), OUTSIDE);
        refused(() -> x.copy(0, 0, 1, -1, 0), OUTSIDE);
        refused(() -> x.copy(0, 0, 1, LEAST, 1), OUTSIDE);
        same(items(1), "xyz");
    }

    @Says("-12")
    void promise29_beyondTheEndOfTheFirst() {
        letters(0, "bcd");
        letters(1, "tuvwxyz");
        refused(() -> x.copy(0, 0, 1, 0, 4), OUTSIDE);
        refused(() -> x.copy(0, 2, 1, 0, 2), OUTSIDE);
        refused(() -> x.copy(0, 3, 1, 0, 1), OUTSIDE);
        refused(() -> x.copy(0, 4, 1, 0, 0), OUTSIDE);
        same(items(1), "tuvwxyz");
    }

    @Says("-12")
    void promise29_beyondTheEndOfTheOther() {
        letters(0, "tuvwxyz");
        letters(1, "bcd");
        refused(() -> x.copy(0, 0, 1, 0, 4), OUTSIDE);
        refused(() -> x.copy(0, 0, 1, 2, 2), OUTSIDE);
        refused(() -> x.copy(0, 0, 1, 3, 1), OUTSIDE);
        refused(() -> x.copy(0, 0, 1, 4, 0), OUTSIDE);
        same(items(1), "bcd");
    }

    @Says("-12")
    void promise29_sumsThatWrap() {
        letters(0, "bcd");
        letters(1, "xyz");
        refused(() -> x.copy(0, 1, 1, 0, MOST), OUTSIDE);
        refused(() -> x.copy(0, MOST, 1, 0, 1), OUTSIDE);
        refused(() -> x.copy(0, 0, 1, MOST, 1), OUTSIDE);
        refused(() -> x.copy(0, MOST, 1, MOST, MOST), OUTSIDE);
        same(items(1), "xyz");
    }

    @Says("n numbers of a SHEET, from item i on, come to another one's item j on (as they were): n.")
    void promise29_none() {
        letters(0, "bcd");
        letters(1, "xyz");
        due(x.copy(0, 0, 1, 0, 0), 0);
        due(x.copy(0, 3, 1, 3, 0), 0);
        same(items(1), "xyz");
        x.sheet(2, BYTES, 0);
        due(x.copy(2, 0, 2, 0, 0), 0);
    }

    @Says("n numbers of a SHEET, from item i on, come to another one's item j on (as they were): n.")
    void promise29_firstAndLastItems() {
        letters(0, "bcd");
        letters(1, "vwxyz");
        due(x.copy(0, 0, 1, 3, 2), 2);
        same(items(1), "vwxbc");
        due(x.copy(0, 2, 1, 0, 1), 1);
        same(items(1), "dwxbc");
        due(x.copy(0, 0, 1, 0, 3), 3);
        same(items(1), "bcdbc");
        same(items(0), "bcd");
    }

    @Says("n numbers of a SHEET, from item i on, come to another one's item j on (as they were): n.")
    void promise29_allFortyOfEachSort() {
        for (int sort = 0; sort < 3; sort++) {
            x.sheet(0, sort, 40);
            x.sheet(1, sort, 40);
            x.cell(0, 30, 7);
            x.cell(0, 39, 9);
            due(x.copy(0, 0, 1, 0, 40), 40);
            x.sheet(2, sort, 10);
            due(x.copy(1, 30, 2, 0, 10), 10);
            same(items(2), "haaaaaaaaj");
        }
    }

    @Says("(as they were)")
    void promise29_upwardsWithinOneSheet() {
        letters(0, "bcdef");
        due(x.copy(0, 0, 0, 1, 4), 4);
        same(items(0), "bbcde");
    }

    @Says("(as they were)")
    void promise29_downwardsWithinOneSheet() {
        letters(0, "bcdef");
        due(x.copy(0, 1, 0, 0, 4), 4);
        same(items(0), "cdeff");
    }

    @Says("(as they were)")
    void promise29_ontoItself() {
        letters(0, "bcdef");
        due(x.copy(0, 0, 0, 0, 5), 5);
        same(items(0), "bcdef");
    }

    // ---- 30: rules

    @Says("BAD: no such SHEET, sort, n;")
    void promise30_noSuchSheet() {
        refused(() -> x.rules(-1, BYTES, 0, 1), BAD);
        refused(() -> x.rules(4, BYTES, 0, 1), BAD);
        refused(() -> x.rules(LEAST, BYTES, 0, 0), BAD);
        refused(() -> x.rules(MOST, BYTES, 0, 0), BAD);
    }

    @Says("BAD: no such SHEET, sort, n;")
    void promise30_noSuchSort() {
        x.sheet(0, BYTES, 3);
        refused(() -> x.rules(0, -1, 0, 1), BAD);
        refused(() -> x.rules(0, 3, 0, 1), BAD);
        refused(() -> x.rules(1, -1, 0, 1), BAD);
        refused(() -> x.rules(0, LEAST, 0, 0), BAD);
        refused(() -> x.rules(0, MOST, 0, 0), BAD);
    }

    @Says("BAD: no such SHEET, sort, n;")
    void promise30_nBelow0OrAbove6() {
        x.sheet(0, BYTES, 40);
        refused(() -> x.rules(0, BYTES, 0, -1), BAD);
        refused(() -> x.rules(0, BYTES, 0, 7), BAD);
        refused(() -> x.rules(0, BYTES, 0, LEAST), BAD);
        refused(() -> x.rules(0, BYTES, 0, MOST), BAD);
    }

    @Says({"-13;", "-13 a thing of another sort or KIND"})
    void promise30_anotherSort() {
        for (int sort = 0; sort < 3; sort++) {
            x.sheet(0, sort, 3);
            int other = (sort + 1) % 3;
            int another = (sort + 2) % 3;
            refused(() -> x.rules(0, other, 0, 1), OTHER_SORT);
            refused(() -> x.rules(0, another, 0, 1), OTHER_SORT);
            refused(() -> x.rules(0, other, 0, 0), OTHER_SORT);
        }
    }

    @Says("-11;")
    void promise30_missingSheet() {
        for (int sort = 0; sort < 3; sort++) {
            int taken = sort;
            refused(() -> x.rules(0, taken, 0, 1), NOTHING);
            refused(() -> x.rules(0, taken, 0, 0), NOTHING);
        }
    }

    @Says("Refusals, the first that the call's words name;")
    void promise30_orderOfRefusals() {
        x.sheet(0, BYTES, 3);
        refused(() -> x.rules(0, SHORTS, 0, 7), BAD);
        refused(() -> x.rules(1, SHORTS, 0, 7), BAD);
        refused(() -> x.rules(1, SHORTS, -1, 1), NOTHING);
        refused(() -> x.rules(0, SHORTS, -1, 1), OTHER_SORT);
        refused(() -> x.rules(0, SHORTS, 9, 6), OTHER_SORT);
    }

    @Says("-12: what stood ahead came.")
    void promise30_fromOutside() {
        x.sheet(0, BYTES, 6);
        refused(() -> x.rules(0, BYTES, -1, 1), OUTSIDE);
        refused(() -> x.rules(0, BYTES, -3, 2), OUTSIDE);
        refused(() -> x.rules(0, BYTES, 6, 1), OUTSIDE);
        refused(() -> x.rules(0, BYTES, LEAST, 6), OUTSIDE);
        refused(() -> x.rules(0, BYTES, MOST, 6), OUTSIDE);
        refused(() -> x.rules(0, BYTES, MOST - 2, 6), OUTSIDE);
    }

    @Says("-12: what stood ahead came.")
    void promise30_oneOrTwoOfThreeInside() {
        x.sheet(0, BYTES, 6);
        refused(() -> x.rules(0, BYTES, 5, 1), OUTSIDE);
        refused(() -> x.rules(0, BYTES, 4, 1), OUTSIDE);
        due(x.rules(0, BYTES, 3, 1), 1);
    }

    @Says("-12: what stood ahead came.")
    void promise30_whatStoodAheadCame() {
        numbers(0, INTS, 1, 2, 3, 4, 5, 6, 2, 8);
        due(x.rules(0, INTS, 0, 3), OUTSIDE);
        due(x.count(1), 2);
        due(x.told(0, 5), 1);
        due(x.told(1, 5), 4);
        due(x.told(1, 2), 5);
        due(x.told(1, 3), 6);
    }

    @Says("-12: what stood ahead came.")
    void promise30_outsideBehindTheSixth() {
        x.sheet(0, BYTES, 17);
        due(x.rules(0, BYTES, 0, 6), OUTSIDE);
        due(x.count(1), 5);
        due(x.rules(0, BYTES, 0, 6), OUTSIDE);
        due(x.count(1), 6);
    }

    @Says("n of them (0 .. 6)")
    void promise30_none() {
        x.sheet(0, BYTES, 6);
        due(x.rules(0, BYTES, 0, 0), 0);
        due(x.rules(0, BYTES, 6, 0), 0);
        x.sheet(1, INTS, 0);
        due(x.rules(1, INTS, 0, 0), 0);
        due(x.count(1), 0);
    }

    @Says("n of them (0 .. 6)")
    void promise30_noneReadsNoPlace() {
        x.sheet(0, BYTES, 6);
        due(x.rules(0, BYTES, -1, 0), 0);
        due(x.rules(0, BYTES, 7, 0), 0);
    }

    @Says({"RULES by a SHEET that is taken for one of a sort: from one on, three by three (as of rule())", "how many came"})
    void promise30_sixFromEachSort() {
        for (int sort = 0; sort < 3; sort++) {
            x = new AfterEachVowel();
            numbers(0, sort, 99, 0, 1, 2, 1, 3, 4, 2, 5, 6, 3, 7, 8, 4, 9, 10, 5, 11, 12);
            due(x.rules(0, sort, 1, 6), 6);
            for (int rule = 0; rule < 6; rule++) {
                due(x.told(rule, 5), rule);
                due(x.told(rule, 2), 2 * rule + 1);
                due(x.told(rule, 3), 2 * rule + 2);
            }
        }
    }

    @Says("from one on, three by three (as of rule())")
    void promise30_upToTheLastItem() {
        x.sheet(0, SHORTS, 40);
        x.cell(0, 37, 5);
        x.cell(0, 38, 25);
        x.cell(0, 39, 24);
        due(x.rules(0, SHORTS, 37, 1), 1);
        due(x.told(0, 5), 5);
        due(x.told(0, 2), 25);
        due(x.told(0, 3), 24);
        due(x.rules(0, SHORTS, 38, 1), OUTSIDE);
    }

    @Says("how many came (others are left out).")
    void promise30_wrongOnesAreLeftOut() {
        numbers(0, INTS, 6, 0, 0, 5, 26, 0, 5, 0, 26, -1, 0, 0, 5, 25, 25);
        due(x.rules(0, INTS, 0, 5), 1);
        due(x.count(1), 1);
        due(x.told(0, 5), 5);
        due(x.told(0, 2), 25);
        due(x.told(0, 3), 25);
        due(x.rules(0, INTS, 0, 4), 0);
        due(x.count(1), 1);
    }

    @Says("how many came (others are left out).")
    void promise30_thoseWithoutRoomAreLeftOut() {
        for (int rule = 0; rule < 4; rule++) {
            x.rule(PLAIN, 0, 0);
        }
        x.sheet(0, BYTES, 18);
        due(x.rules(0, BYTES, 0, 6), 2);
        due(x.count(1), 6);
        due(x.rules(0, BYTES, 0, 6), 0);
        due(x.count(1), 6);
    }

    @Says("taken for one of a sort")
    void promise30_bytesBelow0AreNoKinds() {
        numbers(0, BYTES, 255, 0, 0, 256 + 5, 256 + 1, 256 + 2);
        due(x.rules(0, BYTES, 0, 2), 1);
        due(x.told(0, 5), 5);
        due(x.told(0, 2), 1);
        due(x.told(0, 3), 2);
    }

    // ---- 31: taken

    private void oneOfEachKind() {
        for (int kind = 0; kind < 6; kind++) {
            x.rule(kind, 0, 10 + kind);
        }
    }

    @Says("BAD: k;")
    void promise31_kindBelow0OrAbove5() {
        oneOfEachKind();
        refused(() -> x.taken(0, -1), BAD);
        refused(() -> x.taken(0, 6), BAD);
        refused(() -> x.taken(0, LEAST), BAD);
        refused(() -> x.taken(0, MOST), BAD);
    }

    @Says("-11: no such RULE;")
    void promise31_noSuchRule() {
        refused(() -> x.taken(0, 0), NOTHING);
        x.rule(PLAIN, 0, 0);
        refused(() -> x.taken(-1, 0), NOTHING);
        refused(() -> x.taken(1, 0), NOTHING);
        refused(() -> x.taken(LEAST, 0), NOTHING);
        refused(() -> x.taken(MOST, 5), NOTHING);
    }

    @Says("Refusals, the first that the call's words name;")
    void promise31_badAheadOfNoSuchRule() {
        refused(() -> x.taken(0, 6), BAD);
        refused(() -> x.taken(-1, -1), BAD);
    }

    @Says("A RULE taken for one of KIND k (0 .. 5)")
    void promise31_itsOwnKind() {
        oneOfEachKind();
        for (int kind = 0; kind < 6; kind++) {
            due(x.taken(kind, kind), 10 + kind);
        }
    }

    @Says({"or one under that one", "1 AFTER under PLAIN, 2 SHIFTED under PLAIN, 3 AT ENDS under AFTER, 4 VOWELS ALONE under SHIFTED,"
        + " 5 BACK TO FRONT under PLAIN;"})
    void promise31_theKindItIsUnder() {
        oneOfEachKind();
        due(x.taken(AFTER, PLAIN), 11);
        due(x.taken(SHIFTED, PLAIN), 12);
        due(x.taken(AT_ENDS, AFTER), 13);
        due(x.taken(VOWELS_ALONE, SHIFTED), 14);
        due(x.taken(BACK_TO_FRONT, PLAIN), 15);
    }

    @Says("(also by others between): its NUMBER.")
    void promise31_byOthersBetween() {
        oneOfEachKind();
        due(x.taken(AT_ENDS, PLAIN), 13);
        due(x.taken(VOWELS_ALONE, PLAIN), 14);
    }

    @Says("-13.")
    void promise31_aKindItIsNotUnder() {
        oneOfEachKind();
        int[] fit = {1, 1 | 2, 1 | 4, 1 | 2 | 8, 1 | 4 | 16, 1 | 32};
        for (int rule = 0; rule < 6; rule++) {
            for (int kind = 0; kind < 6; kind++) {
                if ((fit[rule] >> kind & 1) == 0) {
                    due(x.taken(rule, kind), OTHER_SORT);
                }
            }
        }
        refused(() -> x.taken(PLAIN, AFTER), OTHER_SORT);
    }

    @Says("its NUMBER.")
    void promise31_leastAndMostNumber() {
        x.rule(AT_ENDS, 9, 0);
        due(x.taken(0, PLAIN), 0);
        x.set(3, 0, 25);
        due(x.taken(0, PLAIN), 25);
    }
}
