/** The edges of promises 8 to 10: texts. */
public final class EdgesOfTextsTest extends Scene {
    private static final String REST = ";hides 0;minds 0;";

    public static void main(String[] args) {
        Cases.run(EdgesOfTextsTest.class, 8, 10);
    }

    /** The text has its FAULT there, on a new object. */
    private void fault(String text, int place) {
        x = new AfterEachVowel();
        due(read(text), -100 - place);
    }

    private void fine(String text) {
        x = new AfterEachVowel();
        due(read(text), 1);
    }

    /** An E tells v, as what hides tells of "cat", without RULES. */
    private void value(String e, int v) {
        x = new AfterEachVowel();
        word("cat", 50);
        due(read("hard 0;hides " + e + ";minds 0;"), 1);
        x.force(1);
        due(x.of(0, 1), v);
    }

    // ---- 8: feed

    @Says("BAD;")
    void promise8_byteBelow0() {
        refused(() -> x.feed(-1), BAD);
        refused(() -> x.feed(LEAST), BAD);
    }

    @Says("BAD;")
    void promise8_byteAbove255() {
        refused(() -> x.feed(256), BAD);
        refused(() -> x.feed(MOST), BAD);
    }

    @Says("A byte (0 .. 255) comes behind THE TAPE: how many it has.")
    void promise8_leastAndMostByte() {
        due(x.feed(0), 1);
        due(x.feed(255), 2);
        due(x.count(4), 2);
    }

    @Says({"how many it has.", "THE TAPE (160 bytes at most)"})
    void promise8_byte160HasRoom() {
        for (int i = 1; i <= 160; i++) {
            due(x.feed(32), i);
        }
        due(x.count(4), 160);
    }

    @Says("FULL.")
    void promise8_byte161HasNone() {
        feed(" ".repeat(160));
        refused(() -> x.feed(32), FULL);
    }

    @Says("Refusals, the first that the call's words name;")
    void promise8_badAheadOfFull() {
        feed(" ".repeat(160));
        refused(() -> x.feed(256), BAD);
        refused(() -> x.feed(-1), BAD);
    }

    @Says("they change nothing:")
    void promise8_refusedBytesAreNotOnTheTape() {
        feed("hard 1;hides 2");
        x.feed(256 + ';');
        x.feed(-1);
        feed(";minds 3;");
        due(x.text(), 1);
        feed("hard 1;hides 2;minds 3;" + " ".repeat(137));
        due(x.feed('?'), FULL);
        due(x.text(), 2);
    }

    @Says("how many it has.")
    void promise8_roomAgainAfterText() {
        feed(" ".repeat(160));
        due(x.text(), -260);
        due(x.feed(32), 1);
    }

    // ---- 9: text

    @Says("THE TAPE, which is empty then, is a TEXT: its number;")
    void promise9_firstIsNumber1() {
        due(read("hard 1;hides 2;minds 3;"), 1);
        due(x.count(3), 2);
        due(x.count(4), 0);
    }

    @Says("which is empty then")
    void promise9_tapeIsEmptyAfterAFault() {
        due(read("hard ?"), -105);
        due(x.count(4), 0);
        due(read("hard 1;hides 2;minds 3;"), 1);
    }

    @Says("-100 less the place of its FAULT.")
    void promise9_faultIsNoText() {
        due(read("hard 1;hides 2;minds 3"), -122);
        due(x.count(3), 1);
        due(x.force(1), BAD);
    }

    @Says("-100 less the place of its FAULT.")
    void promise9_faultLeavesTheTextsAsTheyWere() {
        word("cat");
        law("11", "12", "13");
        read("hard 21;hides 22;minds 23?");
        due(x.of(0, 0), 11);
        due(x.of(0, 1), 12);
        due(x.of(0, 2), 13);
    }

    @Says("-100 less the place of its FAULT.")
    void promise9_textBehindAFault() {
        word("cat");
        read("hard 21+(1*2);hides 22;minds 23");
        due(read("hard 1;hides 2;minds 3;"), 1);
        x.force(1);
        due(x.of(0, 0), 1);
        due(x.of(0, 1), 2);
        due(x.of(0, 2), 3);
    }

    @Says({"is a TEXT", "TEXT 0, at first THE LAW, is:"})
    void promise9_textIsNotTheLawYet() {
        word("cat");
        read("hard 50;hides 50;minds 50;");
        due(x.count(5), 0);
        due(x.of(0, 0), 4);
    }

    @Says("There are 6 TEXTS at most, TEXT 0 with them.")
    void promise9_sixthHasRoom() {
        word("cat");
        for (int text = 1; text <= 5; text++) {
            due(read("hard 1;hides " + text + ";minds 1;"), text);
        }
        due(x.count(3), 6);
        for (int text = 1; text <= 5; text++) {
            x.force(text);
            due(x.of(0, 1), text);
        }
    }

    private void sixTexts() {
        for (int text = 1; text <= 5; text++) {
            read("hard 1" + REST);
        }
    }

    @Says("FULL: no TEXT more has room (THE TAPE stays).")
    void promise9_seventhHasNone() {
        sixTexts();
        feed("hard 1" + REST);
        refused(() -> x.text(), FULL);
        due(x.count(4), 23);
    }

    @Says("FULL: no TEXT more has room (THE TAPE stays).")
    void promise9_fullWithAnEmptyTape() {
        sixTexts();
        refused(() -> x.text(), FULL);
    }

    @Says("FULL: no TEXT more has room (THE TAPE stays).")
    void promise9_fullWithAFaultOnTheTape() {
        sixTexts();
        feed("hard ?");
        refused(() -> x.text(), FULL);
        due(x.count(4), 6);
    }

    @Says("(THE TAPE stays).")
    void promise9_fullTapeGoesOn() {
        sixTexts();
        feed("hard");
        x.text();
        due(x.feed(32), 5);
        feed(" ".repeat(155));
        due(x.text(), FULL);
        due(x.feed(32), FULL);
    }

    @Says("A TEXT is read from THE TAPE (160 bytes at most).")
    void promise9_textOf160Bytes() {
        String dense = "hard-1" + "+1".repeat(68) + ";hides 2;minds 30;";
        due(dense.length(), 160);
        word("cat");
        due(read(dense), 1);
        x.force(1);
        due(x.of(0, 0), 67);
        due(x.of(0, 1), 2);
        due(x.of(0, 2), 30);
    }

    @Says("A TEXT is read from THE TAPE (160 bytes at most).")
    void promise9_textOf160BytesBehindAFault() {
        String faulty = "hard-1" + "+1".repeat(68) + ";hides 2;minds 30?";
        due(faulty.length(), 160);
        due(read(faulty), -259);
        promise9_textOf160Bytes();
    }

    @Says("A TEXT is read from THE TAPE (160 bytes at most).")
    void promise9_tokensOfOneByte() {
        fault(";".repeat(160), 0);
        fault("-".repeat(160), 0);
        fault("1 ".repeat(80), 0);
        fault("hard" + "-".repeat(156), 9);
        fault("hard" + "*".repeat(156), 4);
    }

    // ---- 9: tokens

    @Says("TOKENS, each as long as can be:")
    void promise9_wordsAsLongAsCanBe() {
        fault("hardlong" + REST, 0);
        fault("hard longvowels" + REST, 5);
        fault("hard notlong" + REST, 5);
        fault("hard 1 orlong" + REST, 7);
    }

    @Says("TOKENS, each as long as can be:")
    void promise9_numbersAsLongAsCanBe() {
        fault("hard 12345" + REST, 5);
        fault("hard 12 34" + REST, 8);
        value("12", 12);
    }

    @Says("blanks (32, 10) may stand between.")
    void promise9_noBlanksAreNeeded() {
        fine("hard1;hides(2);minds-3;");
        fine("hard long;hides 1or 2and not3;minds 4;");
        fault("hard 1long" + REST, 6);
        fault("hard long1" + REST, 9);
    }

    @Says("blanks (32, 10) may stand between.")
    void promise9_manyBlanks() {
        fine("hard \n\n  1 \n;\nhides\n2 ; minds  3\n\n;");
        fault("ha rd 1" + REST, 0);
        fault("hard 1 2" + REST, 7);
    }

    @Says("blanks (32, 10) may stand between.")
    void promise9_blanksAheadAndBehind() {
        fine(" \n hard 1;hides 2;minds 3;");
        fine("hard 1;hides 2;minds 3; \n ");
    }

    @Says("blanks (32, 10) may stand between.")
    void promise9_blanksAlone() {
        fault(" ", 1);
        fault("\n\n", 2);
        fault(" ".repeat(160), 160);
    }

    @Says("blanks (32, 10) may stand between.")
    void promise9_otherGapsAreNoBlanks() {
        for (int gap : new int[] {0, 9, 11, 12, 13, 31, 33, 160}) {
            fault("hard" + (char) gap + "1" + REST, 4);
        }
    }

    @Says({"WORDS (a .. z)", "also of a byte that begins none"})
    void promise9_bytesNextToTheLetters() {
        fault("hard `" + REST, 5);
        fault("hard {" + REST, 5);
        fault("hard long`" + REST, 9);
        fault("hard long{" + REST, 9);
        fault("hard a" + REST, 5);
        fault("hard z" + REST, 5);
        fault("Hard 1" + REST, 0);
        fault("hard A" + REST, 5);
        fault("hard Z" + REST, 5);
    }

    @Says("TOKENS, each as long as can be:")
    void promise9_firstAndLastLetterBehindAName() {
        fault("hard longa" + REST, 5);
        fault("hard longz" + REST, 5);
        fault("hard along" + REST, 5);
        fault("hard zlong" + REST, 5);
    }

    @Says({"NUMBERS (digits, 4 at most)", "also of a byte that begins none"})
    void promise9_bytesNextToTheDigits() {
        fault("hard 1/" + REST, 6);
        fault("hard 1:" + REST, 6);
        fault("hard /" + REST, 5);
        fault("hard :" + REST, 5);
        value("0", 0);
        value("9", 9);
    }

    @Says({"SIGNS ( ) ; + - * < = ;", "also of a byte that begins none"})
    void promise9_everyByteThatBeginsNone() {
        String begins = "();+-*<= \n";
        for (int b = 0; b < 256; b++) {
            boolean letter = b >= 'a' && b <= 'z';
            boolean digit = b >= '0' && b <= '9';
            if (!letter && !digit && begins.indexOf(b) < 0) {
                fault("hard 1 " + (char) b, 7);
            }
        }
    }

    @Says("SIGNS ( ) ; + - * < = ;")
    void promise9_everySign() {
        value("(1+2)*3-4", 5);
        value("1<2", 1);
        value("2=2", 1);
    }

    @Says("a NUMBER that is too long")
    void promise9_numberOfFiveDigits() {
        fault("hard 12345" + REST, 5);
        fault("hard 00000" + REST, 5);
        fault("hard 1+99999" + REST, 7);
        fault("hard " + "1".repeat(155), 5);
    }

    @Says("NUMBERS (digits, 4 at most)")
    void promise9_numberOfFourDigits() {
        value("9999=9998+1", 1);
        value("0099", 99);
        value("0000", 0);
    }

    // ---- 9: what may stand where

    @Says("TEXT: hard E ; hides E ; minds E ;")
    void promise9_partsInTheirOrder() {
        fault("hides 1;", 0);
        fault("minds 1;", 0);
        fault("hard 1;minds 1;hides 1;", 7);
        fault("hard 1;hard 1;", 7);
        fault("hard 1;hides 1;hides 1;", 15);
        fault("hard 1;hides 1;hard 1;", 15);
    }

    @Says("TEXT: hard E ; hides E ; minds E ;")
    void promise9_partWithoutAnE() {
        fault("hard ;" + REST, 5);
        fault("hard 1;hides;minds 1;", 12);
        fault("hard 1;hides 1;minds;", 20);
    }

    @Says("TEXT: hard E ; hides E ; minds E ;")
    void promise9_partWithoutItsEnd() {
        fault("hard 1 hides 1;minds 1;", 7);
        fault("hard 1;hides 1 minds 1;", 15);
        fault("hard 1;hides 1;minds 1", 22);
    }

    @Says("TEXT: hard E ; hides E ; minds E ;")
    void promise9_somethingBehindTheText() {
        fault("hard 1;hides 1;minds 1;;", 23);
        fault("hard 1;hides 1;minds 1; hard 1;", 24);
        fault("hard 1;hides 1;minds 1;1", 23);
        fault("hard 1;hides 1;minds 1;\t", 23);
    }

    @Says({"E: AND { or AND }.", "AND: NOT { and NOT }."})
    void promise9_orAndAnd() {
        value("0 or 0", 0);
        value("0 or 0 or 1", 1);
        value("1 and 1", 1);
        value("1 and 1 and 0", 0);
        value("1 or 0 and 0", 1);
        value("0 and 0 or 1", 1);
        fault("hard or 1" + REST, 5);
        fault("hard 1 or" + REST, 9);
        fault("hard 1 and" + REST, 10);
        fault("hard 1 or and 1" + REST, 10);
    }

    @Says("NOT: not NOT, or SUM, perhaps < or = and a SUM.")
    void promise9_not() {
        value("not 0", 1);
        value("not not 7", 1);
        value("not 2<1", 1);
        value("not 0 and 0", 0);
        value("not 1 or 1", 1);
        fault("hard not" + REST, 8);
        fault("hard 1 not 1" + REST, 7);
        fault("hard 1+not 1" + REST, 7);
        fault("hard 1<not 1" + REST, 7);
        fault("hard 2*not 1" + REST, 7);
        fault("hard -not 1" + REST, 6);
    }

    @Says("perhaps < or = and a SUM.")
    void promise9_oneComparisonAtMost() {
        fault("hard 1<2<3" + REST, 8);
        fault("hard 1<2=3" + REST, 8);
        fault("hard 1=2<3" + REST, 8);
        fault("hard 1=2=3" + REST, 8);
        fault("hard 1<" + REST, 7);
        fault("hard 1<=2" + REST, 7);
        fault("hard <1" + REST, 5);
        value("(1<2)<3", 1);
        value("1<2 and 3=3", 1);
        value("1+1=2", 1);
    }

    @Says({"SUM: TERM { + or - TERM }.", "TERM: ONE { * ONE }."})
    void promise9_sumsAndTerms() {
        value("9-3-2", 4);
        value("9-(3-2)", 8);
        value("1+2*3", 7);
        value("2*3*4", 24);
        value("9-2*3", 3);
        fault("hard +1" + REST, 5);
        fault("hard *1" + REST, 5);
        fault("hard 1+" + REST, 7);
        fault("hard 1-" + REST, 7);
        fault("hard 1*" + REST, 7);
        fault("hard 1*+1" + REST, 7);
    }

    @Says("ONE: a NUMBER, a NAME, - ONE, ( E ).")
    void promise9_ones() {
        value("- -7", 7);
        value("--7", 7);
        value("5--2", 7);
        value("5*-1+9", 4);
        value("-2*-3", 6);
        value("-(1-8)", 7);
        value("(not 0)+3", 4);
        value("(1 or 0)+3", 4);
        fault("hard ()" + REST, 6);
        fault("hard (1" + REST, 7);
        fault("hard 1)" + REST, 6);
        fault("hard (1))" + REST, 8);
        fault("hard -" + REST, 6);
        fault("hard 1(2)" + REST, 6);
    }

    @Says({"NAMES are long vowels rules number word weight;", "a WORD that is neither KEY nor NAME"})
    void promise9_almostNames() {
        for (String word : new String[] {"lon", "longs", "vowel", "rule", "numbers", "words", "weigh", "weights", "l"}) {
            fault("hard " + word + REST, 5);
        }
        for (String word : new String[] {"xong", "lxng", "lonx", "xowels", "xules", "xumber", "xord", "xeight"}) {
            fault("hard " + word + REST, 5);
        }
        fine("hard long+vowels+rules+number+word+weight" + REST);
    }

    @Says("hard, hides, minds, or, and, not are KEYS.")
    void promise9_keysAreNoNames() {
        for (String word : new String[] {"hard", "hides", "minds", "or", "and"}) {
            fault("hard " + word + REST, 5);
        }
        fault("long 1" + REST, 0);
        fault("hard 1;weight 1;", 7);
        fault("hards 1" + REST, 0);
        fault("har 1" + REST, 0);
        fault("hard 1 ands 1" + REST, 7);
        fault("hard 1 o 1" + REST, 7);
        fault("hard no 1" + REST, 5);
        fault("hard nott 1" + REST, 5);
        fault("hard xot 1" + REST, 5);
        fault("hard 1 xr 1" + REST, 7);
        fault("hard 1 xnd 1" + REST, 7);
        fault("xard 1" + REST, 0);
        fault("hard 1;xides 1;", 7);
    }

    // ---- 9: what an E is

    @Says("An E is an int (32 bits, wrapping):")
    void promise9_productsWrap() {
        value("256*256*256*256=0", 1);
        value("256*256*256*128<0", 1);
        value("256*256*256*127<0", 0);
        value("256*256*256*256+7", 7);
    }

    @Says("An E is an int (32 bits, wrapping):")
    void promise9_sumsWrap() {
        value("256*256*256*127+256*256*256<0", 1);
        value("0<256*256*256*128-1", 1);
        value("256*256*256*128-1+1<0", 1);
    }

    @Says("An E is an int (32 bits, wrapping):")
    void promise9_theLeastStaysLeast() {
        value("-(256*256*256*128)<0", 1);
        value("-(256*256*256*128)=256*256*256*128", 1);
    }

    @Says("of or, and, not, <, = 1 or 0 (what is not 0 is true).")
    void promise9_whatIsNot0IsTrue() {
        value("7 or 0", 1);
        value("0 or 7", 1);
        value("-1 or 0", 1);
        value("7 and -1", 1);
        value("256*256*256*128 and 2", 1);
        value("256*256*256*256 or 0", 0);
        value("not -1", 0);
        value("not 2", 0);
        value("1<1", 0);
        value("-1<0", 1);
        value("0<-1", 0);
        value("1=0", 0);
        value("-1=1", 0);
        value("(2<3)*40+(3=3)*7", 47);
        value("0 and 1", 0);
        value("1 and 0", 0);
        value("-1 and 1", 1);
        value("1 and -1", 1);
        value("0 or -1", 1);
    }

    @Says("of or, and, not, <, = 1 or 0 (what is not 0 is true).")
    void promise9_whatIsNotTrueIs0() {
        value("(0 or 0)+5", 5);
        value("(1 and 0)+5", 5);
        value("(not 7)+5", 5);
        value("(2<1)+5", 5);
        value("(2=1)+5", 5);
    }

    // ---- 9: faults

    @Says("FAULT: the place of the first byte of the first TOKEN that can't stand there")
    void promise9_placeOfTheFirstByte() {
        fault("hard   1   hides", 11);
        fault("hard 1 ) ?", 7);
        fault("hard 1 ? )", 7);
        fault("? hard", 0);
        fault("\n?", 1);
        fault("hard 1 12345 ?", 7);
        fault("hard 1 abc ?", 7);
    }

    @Says("(the text's size, if it ends too early)")
    void promise9_endsTooEarly() {
        fault("", 0);
        fault("hard", 4);
        fault("hard ", 5);
        fault("hard 1", 6);
        fault("hard 1;", 7);
        fault("hard 1;hides", 12);
        fault("hard 1;hides 1;minds 1 \n", 24);
        fault("hard (", 6);
        fault("hard not", 8);
        fault("hard -", 6);
        fault("hard 1<", 7);
    }

    @Says("(the text's size, if it ends too early)")
    void promise9_endsTooEarlyWith160Bytes() {
        fault("hard " + "1+".repeat(77) + "1", 160);
        fault("hard 1" + " ".repeat(154), 160);
    }

    @Says("FAULT: the place of the first byte of the first TOKEN that can't stand there")
    void promise9_faultAtTheLastOf160Bytes() {
        fault("hard " + "1+".repeat(77) + "+", 159);
        fault("hard " + "1+".repeat(77) + "?", 159);
        fault("hard " + "1+".repeat(77) + "a", 159);
    }

    @Says({"a ( , a not, a - ahead of a ONE while 5 of these are open", "(a ( till its ) ,"})
    void promise9_fiveAndSixParentheses() {
        value("(((((7)))))", 7);
        fault("hard ((((((7))))))" + REST, 10);
        fault("hard 1+((((((7))))))" + REST, 12);
    }

    @Says("a ( , a not, a - ahead of a ONE while 5 of these are open")
    void promise9_fiveAndSixNots() {
        value("not not not not not 0", 1);
        fault("hard not not not not not not 0" + REST, 25);
    }

    @Says("a ( , a not, a - ahead of a ONE while 5 of these are open")
    void promise9_fiveAndSixMinuses() {
        value("----7", 7);
        value("-----7+9", 2);
        fault("hard ------7" + REST, 10);
        fault("hard - - - - - -7" + REST, 15);
    }

    @Says("a ( , a not, a - ahead of a ONE while 5 of these are open")
    void promise9_sixOpenOfAllSorts() {
        fine("hard not -(not -1)" + REST);
        fine("hard not -(not (1))" + REST);
        fault("hard not -(not --1)" + REST, 16);
        fault("hard not -(not -(1))" + REST, 16);
        fault("hard not -(not (not 1))" + REST, 16);
        fault("hard not -(not ((1)))" + REST, 16);
        fine("hard not -((-1))" + REST);
        fault("hard not -((-(1)))" + REST, 13);
    }

    @Says("a - ahead of a ONE while 5 of these are open")
    void promise9_minusBehindATermOpensNothing() {
        fine("hard (((((1-1)))))" + REST);
        fine("hard (((((1-1-1-1-1-1-1)))))" + REST);
        fault("hard (((((1--1)))))" + REST, 12);
        fault("hard (((((-1)))))" + REST, 10);
    }

    @Says("(a ( till its ) ,")
    void promise9_closedParenthesesAreOpenNoMore() {
        fine("hard (((((1)))))+(((((1)))))" + REST);
        fine("hard ((((1))+((1))))+(1)*(1)*(1)" + REST);
        fine("hard ((((1)))+((((1)))))" + REST);
        fault("hard ((((1)))+(((((1))))))" + REST, 18);
    }

    @Says("not and - till what they belong to ends).")
    void promise9_minusEndsWithItsOne() {
        fine("hard -----1*-----1+-----1" + REST);
        fine("hard -(1)+(((((1)))))" + REST);
        fine("hard -1*(((((1)))))" + REST);
        fault("hard -(((((1)))))" + REST, 10);
    }

    @Says("not and - till what they belong to ends).")
    void promise9_notEndsWithItsNot() {
        fine("hard not not not not not 1 and not not not not not 1 or not 1" + REST);
        fine("hard not 1<2 and (((((1)))))" + REST);
        fault("hard not 1<(((((2)))))" + REST, 15);
        fault("hard not 1*(((((2)))))" + REST, 15);
        fault("hard not not not not not 1<-1" + REST, 27);
    }

    @Says("not and - till what they belong to ends).")
    void promise9_nothingIsOpenInTheNextPart() {
        fine("hard -----1;hides not not not not not 1;minds (((((1)))));");
    }

    @Says("a ( , a not, a - ahead of a ONE while 5 of these are open")
    void promise9_nothingIsOpenBehindAFault() {
        for (String faulty : new String[] {"hard (((((", "hard -----", "hard not not not not not", "hard ((((((1"}) {
            x = new AfterEachVowel();
            read(faulty);
            due(read("hard (((((1)))))" + REST), 1);
        }
    }

    // ---- 9: what texts tell

    @Says({"Of a WORD as it is said:", "long: how many LETTERS that has;"})
    void promise9_longOfOneAndOfForty() {
        words("b", TEN);
        x.rule(AFTER, 0, 0);
        row(0, 0);
        law("0", "long", "0");
        due(x.of(0, 1), 1);
        due(x.of(1, 1), 40);
    }

    @Says("vowels: how many of these are VOWELS;")
    void promise9_vowelsOfNoneAndOfForty() {
        words("b", TEN);
        x.rule(AFTER, 0, 0);
        row(0, 0);
        law("0", "vowels", "0");
        due(x.of(0, 1), 0);
        due(x.of(1, 1), 40);
        x.set(0, 0, 0);
        due(x.of(1, 1), 0);
    }

    @Says("rules: how many RULES THE ROW has;")
    void promise9_rulesOfNoneAndOfEight() {
        word("b");
        x.rule(PLAIN, 0, 0);
        x.rule(PLAIN, 0, 0);
        law("0", "rules", "0");
        due(x.of(0, 1), 0);
        row(0, 0, 0, 0, 0, 0, 0, 0);
        due(x.of(0, 1), 8);
    }

    @Says("number: NUMBER of the last of these (0: there is none);")
    void promise9_numberWithoutARow() {
        word("b");
        x.rule(PLAIN, 0, 25);
        x.rule(PLAIN, 0, 9);
        law("0", "number", "0");
        due(x.of(0, 1), 0);
        x.then(1);
        due(x.of(0, 1), 9);
        x.then(0);
        due(x.of(0, 1), 25);
        x.clear();
        due(x.of(0, 1), 0);
        law("0", "number+5", "0");
        due(x.of(0, 1), 5);
    }

    @Says({"word: the WORD's number;", "weight: WEIGHT."})
    void promise9_firstAndLastWord() {
        for (int word = 0; word < 8; word++) {
            word("b", 99 * word / 7);
        }
        law("0", "word", "weight");
        due(x.of(0, 1), 0);
        due(x.of(7, 1), 7);
        due(x.of(0, 2), 0);
        due(x.of(7, 2), 99);
    }

    @Says("hard: how hard it is to say (0 .. 99, else the bound).")
    void promise9_hardWithinItsBounds() {
        int[][] due = {{0, 0}, {99, 99}, {100, 99}, {9999, 99}};
        for (int[] pair : due) {
            x = new AfterEachVowel();
            word("b");
            law("" + pair[0], "0", "0");
            due(x.of(0, 0), pair[1]);
        }
        x = new AfterEachVowel();
        word("b");
        law("-1", "0", "0");
        due(x.of(0, 0), 0);
        law("256*256*256*128", "0", "0");
        due(x.of(0, 0), 0);
        law("256*256*256*128-1", "0", "0");
        due(x.of(0, 0), 99);
    }

    @Says("hides: how well it is hidden (0 .. 99, else the bound).")
    void promise9_hidesWithinItsBounds() {
        value("0", 0);
        value("99", 99);
        value("100", 99);
        value("-1", 0);
        value("256*256*256*128", 0);
        value("256*256*256*128-1", 99);
    }

    @Says("minds: how bad it is to be taken for another one (0 .. 99, else the bound).")
    void promise9_mindsWithinItsBounds() {
        String[] es = {"0", "99", "100", "-1"};
        int[] due = {0, 99, 99, 0};
        for (int i = 0; i < 4; i++) {
            x = new AfterEachVowel();
            word("b");
            law("0", "0", es[i]);
            due(x.of(0, 2), due[i]);
        }
    }

    @Says({"TEXT 0, at first THE LAW, is: hard long + vowels ; hides rules * 5 ; minds weight ;"})
    void promise9_textZero() {
        word("aebo", 77);
        x.rule(PLAIN, 0, 0);
        due(x.of(0, 0), 4 + 3);
        due(x.of(0, 1), 0);
        due(x.of(0, 2), 77);
        row(0, 0, 0, 0, 0, 0, 0, 0);
        due(x.of(0, 1), 40);
    }

    // ---- 10: force

    @Says("A TEXT is THE LAW: which was.")
    void promise10_firstAndLastText() {
        word("cat");
        for (int text = 1; text <= 5; text++) {
            read("hard " + text + "0" + REST);
        }
        due(x.force(5), 0);
        due(x.of(0, 0), 50);
        due(x.count(5), 5);
        due(x.force(0), 5);
        due(x.of(0, 0), 4);
        due(x.count(5), 0);
    }

    @Says("A TEXT is THE LAW: which was.")
    void promise10_sameOnceMore() {
        due(x.force(0), 0);
        read("hard 1" + REST);
        due(x.force(1), 0);
        due(x.force(1), 1);
        due(x.count(5), 1);
    }

    @Says("BAD.")
    void promise10_textBelow0() {
        refused(() -> x.force(-1), BAD);
        refused(() -> x.force(LEAST), BAD);
    }

    @Says("BAD.")
    void promise10_textThatIsNotThere() {
        refused(() -> x.force(1), BAD);
        read("hard 1" + REST);
        x.force(1);
        refused(() -> x.force(2), BAD);
        refused(() -> x.force(MOST), BAD);
    }

    @Says("BAD.")
    void promise10_textSix() {
        sixTexts();
        due(x.force(5), 0);
        refused(() -> x.force(6), BAD);
    }
}
