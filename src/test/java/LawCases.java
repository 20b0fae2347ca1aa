import java.math.BigInteger;

/** Boundary cases of ==== 3. and ==== 4. and of promises 20 to 28: the TAPE, LAWS, WORLDS, OTHER RIVERS. */
final class LawCases {
    private static final int NONE = RiverWage.NONE;
    private static final int[] BEYOND_TEXTS = Edge.beyond(0, 3);
    private static final int[] BEYOND_MONTHS = Edge.beyond(0, 11);
    private static final int[] BEYOND_SEEDS = Edge.beyond(1, 20);

    private LawCases() {
    }

    // ---- ==== 3.: the TAPE and its TOKENS ----

    @Says(at = "==== 3.", words = "The TAPE has at most 1,000 signs")
    static void aTapeOf1000Signs(Due due) {
        RiverWage x = new RiverWage();
        x.kitchen(0, 0, 1, 1, false);
        String blanks = " ".repeat(991);
        due.is("1000 signs", Texts.feed(x, blanks + "hire 77 ;"), 1000);
        due.is("no more", Texts.feed(x, "?"), 1000);
        due.is("all are read", x.law(0), 0);
        due.is("its value", x.world(0, 0, 0, 1), 770);
        due.is("1001 signs", Texts.feed(x, blanks + "hire 778 ;"), 1000);
        due.is("the last one isn't there", x.law(0), Texts.fault(1, 1000));
        due.is("the law stays", x.world(0, 0, 0, 1), 770);
        due.is("1000 signs full of tokens", Texts.feed(x, "hire 12" + "+1".repeat(496) + ";"), 1000);
        due.is("all are read", x.law(0), 0);
        due.is("its value", x.world(0, 0, 0, 1), 990);
        due.is("as many less", Texts.law(x, 0, "hire 12" + "-1".repeat(494) + "+495" + ";"), 0);
        due.is("its value", x.world(0, 0, 0, 1), 130);
    }

    @Says(at = "==== 3.", words = "10 and 32 .. 126; what reads it takes it: it is empty then")
    static void whatReadsTheTapeTakesIt(Due due) {
        RiverWage x = new RiverWage();
        Texts.feed(x, "hire 1 ;");
        due.is("a law", x.law(0), 0);
        due.is("empty", x.count(6), 0);
        Texts.feed(x, "hire ;");
        due.is("a fault", x.law(0), Texts.fault(1, 5));
        due.is("empty", x.count(6), 0);
        Texts.feed(x, "take when 1 ;");
        due.is("a writer", x.writer(0), 0);
        due.is("empty", x.count(6), 0);
        Texts.feed(x, "take");
        due.is("a fault", x.writer(0), Texts.fault(1, 4));
        due.is("empty", x.count(6), 0);
        Texts.feed(x, "abc");
        x.world(0, 0, 0, 1);
        x.takes(0, 0);
        x.forks(0);
        due.is("what doesn't read it leaves it", x.count(6), 3);
    }

    @Says(at = "==== 3.", words = "TOKENS, each as long as can be, blanks (10, 32) between where one likes")
    static void blanksBetweenWhereOneLikes(Due due) {
        RiverWage x = oneKitchen();
        value(due, x, "hire(not 0)+half*2-1<9and 1;", 1);
        value(due, x, "\n \n hire\n\n5\n;\n", 5);
        value(due, x, "hire5;", 5);
        value(due, x, "hire 5;", 5);
        due.is("a blank within a word", Texts.law(x, 0, "hi re 5 ;"), Texts.fault(1, 0));
        due.is("a blank within a number", Texts.law(x, 0, "hire 5 5 ;"), Texts.fault(1, 7));
        due.is("words without a blank are one", Texts.law(x, 0, "shutwhen 1 ;"), Texts.fault(1, 0));
        due.is("words without a blank are one", Texts.law(x, 0, "hire notwas ;"), Texts.fault(1, 5));
        due.is("blanks alone", Texts.law(x, 0, " \n "), 0);
        due.is("a tab is left out by feed", Texts.law(x, 0, "hire\t5;"), 0);
    }

    /** Its hands in MONTH 0 are 10 whole and 4 half ones. */
    private static RiverWage oneKitchen() {
        RiverWage x = new RiverWage();
        x.kitchen(0, 0, 400, 10, false);
        x.call(0, 0, 10, 4);
        x.tenths(0);
        return x;
    }

    /** The whole hands that a LAW gives in MONTH 1. */
    private static void value(Due due, RiverWage x, String text, int want) {
        due.is("no fault of '" + text + "'", Texts.law(x, 0, text), 0);
        due.is("hands by '" + text + "'", x.world(0, 0, 0, 1), 10 * want);
    }

    @Says(at = "==== 3.", words = "WORDS (letters a .. z, 8 at most)")
    static void wordsOf8LettersAtMost(Due due) {
        RiverWage x = oneKitchen();
        due.is("8 letters", Texts.law(x, 0, "hire 1 + abcdefgh ;"), Texts.fault(1, 9));
        due.is("9 letters", Texts.law(x, 0, "hire 1 + abcdefghi ;"), Texts.fault(1, 9));
        due.is("8 and 4 letters in one", Texts.law(x, 0, "hire 1 + abcdefghhalf ;"), Texts.fault(1, 9));
        due.is("a great letter", Texts.law(x, 0, "Hire 1 ;"), Texts.fault(1, 0));
        due.is("a great letter within", Texts.law(x, 0, "hire halF ;"), Texts.fault(1, 5));
        due.is("a and z are letters", Texts.law(x, 0, "hire halfa ;"), Texts.fault(1, 5));
        due.is("a and z are letters", Texts.law(x, 0, "hire halfz ;"), Texts.fault(1, 5));
        due.is("the sign before a", Texts.law(x, 0, "hire 1 ` 1 ;"), Texts.fault(1, 7));
        due.is("the sign behind z", Texts.law(x, 0, "hire 1 { 1 ;"), Texts.fault(1, 7));
        due.is("a sign behind a word", Texts.law(x, 0, "hire half_ ;"), Texts.fault(1, 9));
    }

    @Says(at = "==== 3.", words = "NUMBERS (1 to 4 digits; a letter may stand right behind)")
    static void numbersOf4DigitsAtMost(Due due) {
        RiverWage x = oneKitchen();
        value(due, x, "hire 0 ;", 0);
        value(due, x, "hire 0007 ;", 7);
        value(due, x, "hire 9999 - 9990 ;", 9);
        value(due, x, "hire 9999 = 9999and 1or 0;", 1);
        value(due, x, "hire 3or 0;", 1);
        due.is("5 digits", Texts.law(x, 0, "hire 1 + 00001 ;"), Texts.fault(1, 9));
        due.is("8 digits", Texts.law(x, 0, "hire 1 + 12345678 ;"), Texts.fault(1, 9));
        due.is("more than an int", Texts.law(x, 0, "hire 1 + 99999999999999999999 ;"), Texts.fault(1, 9));
        due.is("the sign before 0", Texts.law(x, 0, "hire 1/1 ;"), Texts.fault(1, 6));
        due.is("the sign behind 9", Texts.law(x, 0, "hire 1:1 ;"), Texts.fault(1, 6));
    }

    @Says(at = "==== 3.", words = "All else (a longer WORD or NUMBER, too, at its first sign) is none")
    static void everyOtherSignIsNoToken(Due due) {
        RiverWage x = oneKitchen();
        String signs = "()<=+-*;";
        int asked = 0;
        for (char sign = 33; sign < 127; sign++) {
            boolean isPartOfTokens = Character.isLetterOrDigit(sign) && !Character.isUpperCase(sign);
            if (!isPartOfTokens && signs.indexOf(sign) < 0) {
                due.is("the sign " + sign, Texts.law(x, 0, "hire 1 " + sign + ";"), Texts.fault(1, 7));
                asked++;
            }
        }
        due.is("how many such signs", asked, 94 - 26 - 10 - 8);
        due.is("at the first sign of a longer word", Texts.law(x, 0, "abcdefghijkl"), Texts.fault(1, 0));
        due.is("at the first sign of a longer number", Texts.law(x, 0, "  123456"), Texts.fault(1, 2));
    }

    // ---- ==== 3.: LAWS and FAULTS ----

    @Says(at = "==== 3.", words = "LAW (0 to 3)")
    static void laws0To3(Due due) {
        RiverWage x = oneKitchen();
        for (int law = 0; law < 4; law++) {
            due.is("law " + law, Texts.law(x, law, "hire 2" + law + " ;"), 0);
        }
        for (int law = 0; law < 4; law++) {
            due.is("its hands", x.world(law, 0, 0, 1), 200 + 10 * law);
        }
        due.isFor("law", BEYOND_TEXTS, law -> x.law(law), NONE);
    }

    @Says(at = "==== 3.", words = "each once at most, in any order")
    static void linesOnceAtMostInAnyOrder(Due due) {
        RiverWage x = oneKitchen();
        due.is("none", x.law(0), 0);
        due.is("one", Texts.law(x, 0, "opens when 1;"), 0);
        due.is("all", Texts.law(x, 0, "hire 1;part 1;shut when 0;opens when 1;"), 0);
        due.is("the other way round", Texts.law(x, 0, "opens when 1;shut when 0;part 1;hire 1;"), 0);
        due.is("hire again", Texts.law(x, 0, "hire 1;part 1;hire 1;"), Texts.fault(3, 14));
        due.is("part again", Texts.law(x, 0, "part 1;hire 1;part 1;"), Texts.fault(3, 14));
        due.is("shut again", Texts.law(x, 0, "shut when 1;shut when 1;"), Texts.fault(3, 12));
        due.is("opens again", Texts.law(x, 0, "opens when 1;opens"), Texts.fault(3, 13));
        due.is("all and one more", Texts.law(x, 0, "hire 1;part 1;shut when 0;opens when 1;part"), Texts.fault(3, 39));
        due.is("in the next text it is the first time", Texts.law(x, 0, "hire 1;"), 0);
    }

    @Says(at = "==== 3.", words = "no PART lies within 5 of not and ( )")
    static void partsWithin4AndWithin5(Due due) {
        RiverWage x = oneKitchen();
        value(due, x, "hire ((((7))));", 7);
        value(due, x, "hire not not not not 7;", 1);
        value(due, x, "hire not(not(7));", 1);
        value(due, x, "hire (1+(1+(1+(1+half))))+((((1))));", 9);
        value(due, x, "hire not not not not 7 + not not not not 7;", 2);
        value(due, x, "hire not(not 7) + not(not 7) * 3;", 4);
        due.is("5 (", Texts.law(x, 0, "hire (((((7)))));"), Texts.fault(5, 10));
        due.is("5 not", Texts.law(x, 0, "hire not not not not not 7;"), Texts.fault(5, 25));
        due.is("3 ( and 2 not", Texts.law(x, 0, "hire (not(not(7)));"), Texts.fault(5, 14));
        due.is("behind others", Texts.law(x, 0, "hire ((((1)))) + (((( 1 + half * (2)))));"), Texts.fault(5, 34));
    }

    @Says(at = "==== 3.", words = "Of not, and, or, < and = comes 1 or 0; what is not 0 is so; ints wrap")
    static void whatIsNot0IsSoAndIntsWrap(Due due) {
        RiverWage x = oneKitchen();
        value(due, x, "hire not 9999;", 0);
        value(due, x, "hire not (0 - 1);", 0);
        value(due, x, "hire not 0;", 1);
        value(due, x, "hire 9999 and (0 - 9999);", 1);
        value(due, x, "hire 0 or (0 - 1);", 1);
        value(due, x, "hire (3 < 4) + (4 = 4) + (4 < 4);", 2);
        value(due, x, "hire 8192*8192*32 < 0;", 1);
        value(due, x, "hire 0 < 8192*8192*32 - 1;", 1);
        value(due, x, "hire 8192*8192*64 = 0;", 1);
        value(due, x, "hire 0 - 8192*8192*32 = 8192*8192*32;", 1);
        value(due, x, "hire 8192*8192*16 + 8192*8192*16 < 0;", 1);
        value(due, x, "hire 8192*8192*64 + 42;", 42);
        value(due, x, "hire 8192*8192*64 and 1;", 0);
    }

    @Says(at = "==== 3.", words = "E: TEST { and TEST or or TEST }, from the left")
    static void whichOperatorsGoFirst(Due due) {
        RiverWage x = oneKitchen();
        value(due, x, "hire 1 or 1 and 0;", 0);
        value(due, x, "hire 1 or (1 and 0);", 1);
        value(due, x, "hire 1 + (0 or 1 and 0) + 1;", 2);
        value(due, x, "hire 0 and 0 or 1;", 1);
        value(due, x, "hire 2 + 3 * 4;", 14);
        value(due, x, "hire 2 * 3 + 4;", 10);
        value(due, x, "hire 20 - 5 - 3;", 12);
        value(due, x, "hire 20 - 5 + 3;", 18);
        value(due, x, "hire 20 - 2 * 3;", 14);
        value(due, x, "hire 1 + 1 < 1 + 2;", 1);
        value(due, x, "hire 3 = 1 + 2 and 2 < 1;", 0);
        value(due, x, "hire not 0 * 5;", 5);
    }

    @Says(at = "==== 3.", words = "Facts: whole, half (hands of the MONTH ahead), wage, floor")
    static void factsAtTheirEdges(Due due) {
        RiverWage x = oneKitchen();
        x.kitchen(0, 1, 999, 0, false);
        x.floor(1, 0, 0, -99);
        x.call(0, 0, 99, 99);
        value(due, x, "hire wage = 999 and floor = 0 and gap = 0 and bank = 1 and month = 1 and trade = 0 - 99;", 1);
        value(due, x, "hire whole = 99 and half = 99 and was = 0 and draw < 10 and not (draw < 0);", 1);
        x.kitchen(0, 0, 0, 0, false);
        x.floor(0, 0, 999, 99);
        value(due, x, "hire wage = 0 and floor = 999 and gap = 999 and bank = 0 and trade = 99;", 1);
        due.is("a law", Texts.law(x, 0, "hire month ;"), 0);
        due.is("the last month", x.world(0, 0, 0, 11), 110);
    }

    @Says(at = "==== 3.", words = "gap (by how much the FLOOR is above the WAGE; 0)")
    static void gapIsNeverBelow0(Due due) {
        RiverWage x = oneKitchen();
        value(due, x, "hire gap + 1;", 1);
        x.floor(0, 0, 399, 0);
        value(due, x, "hire gap + 1;", 1);
        x.floor(0, 0, 400, 0);
        value(due, x, "hire gap + 1;", 1);
        x.floor(0, 0, 401, 0);
        value(due, x, "hire gap + 1;", 2);
        x.kitchen(0, 0, 0, 1, false);
        x.floor(0, 0, 999, 0);
        value(due, x, "hire gap = 999;", 1);
    }

    @Says(at = "==== 3.", words = "kind + 16 * the place (from 0) of a token, the end being one at the text's length")
    static void faultsAtTheStartAndAtTheEnd(Due due) {
        RiverWage x = oneKitchen();
        due.is("at the start", Texts.law(x, 0, ";"), 1);
        due.is("behind a blank", Texts.law(x, 0, " ;"), 17);
        due.is("at the end", Texts.law(x, 0, "hire"), 1 + 16 * 4);
        due.is("behind blanks at the end", Texts.law(x, 0, "hire 1 \n "), 1 + 16 * 9);
        due.is("without the last sign", Texts.law(x, 0, "hire 1 ; shut when 1"), 1 + 16 * 20);
        due.is("within ( )", Texts.law(x, 0, "hire ( 1"), 1 + 16 * 8);
        due.is("behind 5 it is 1", Texts.law(x, 0, "hire (((((  "), 1 + 16 * 12);
        Texts.feed(x, " ".repeat(996) + "hire");
        due.is("at the end of a full tape", x.law(0), 1 + 16 * 1000);
        due.is("an end that may stand there", Texts.law(x, 0, "hire 1 ;   "), 0);
    }

    @Says(at = "==== 3.", words = "the end being one at the text's length")
    static void theEndOfATextIsNotThatOfTheOneBefore(Due due) {
        RiverWage x = oneKitchen();
        due.is("a text before", Texts.law(x, 0, "hire 1234 + half + half ;"), 0);
        due.is("a number at the end", Texts.law(x, 0, "hire 1"), Texts.fault(1, 6));
        due.is("a text before", Texts.law(x, 0, "hire 1 + half + half ;"), 0);
        due.is("a word at the end", Texts.law(x, 0, "hire 1 + ha"), Texts.fault(1, 9));
        due.is("a text before", Texts.law(x, 0, "hire 1          ;"), 0);
        due.is("blanks at the end", Texts.law(x, 0, "hire 1  "), Texts.fault(1, 8));
        String[] ends = {"1", "1234", "12345", "hal", "half", "(", " ", "?", "not"};
        int[] places = {1000, 1000, 995, 997, 1000, 1000, 1000, 999, 1000};
        for (int i = 0; i < ends.length; i++) {
            RiverWage y = new RiverWage();
            String text = "hire " + " ".repeat(995 - ends[i].length()) + ends[i];
            due.is("'" + ends[i] + "' at the end of a full tape", Texts.law(y, 0, text), Texts.fault(1, places[i]));
        }
    }

    @Says(at = "==== 3.", words = "of the first token from the left that is wrong the least")
    static void theFirstTokenAndItsLeastKind(Due due) {
        RiverWage x = oneKitchen();
        due.is("the first of two", Texts.law(x, 0, "hire ; hire ?"), Texts.fault(1, 5));
        due.is("3 before 1", Texts.law(x, 0, "hire 1 ; hire ; ?"), Texts.fault(3, 9));
        due.is("5 before 3", Texts.law(x, 0, "hire(((((1))))); hire 1;"), Texts.fault(5, 9));
        due.is("a second hire that can't stand there", Texts.law(x, 0, "hire hire ;"), Texts.fault(1, 5));
        due.is("a second hire within 5", Texts.law(x, 0, "hire(((((hire)))));"), Texts.fault(1, 9));
        due.is("no token within 5", Texts.law(x, 0, "hire(((((?)))));"), Texts.fault(1, 9));
        due.is("a longer number within 5", Texts.law(x, 0, "hire(((((12345)))));"), Texts.fault(1, 9));
        due.is("when behind when", Texts.law(x, 0, "shut when when 1 ;"), Texts.fault(1, 10));
    }

    @Says(at = "==== 3.", words = "1 it is none, or can't stand there")
    static void tokensThatCantStandThere(Due due) {
        RiverWage x = oneKitchen();
        for (String word : new String[] {"part", "shut", "when", "and", "or", "most", "number", ";", ")", "+", "-", "*", "<", "="}) {
            due.is(word + " where a PART is due", Texts.law(x, 0, "hire 1 + " + word + " 1 ;"), Texts.fault(1, 9));
        }
        for (String word : new String[] {"not", "when", "half", "7", "(", ")", "hire"}) {
            due.is(word + " behind a PART", Texts.law(x, 0, "hire 1 " + word + " ;"), Texts.fault(1, 7));
        }
        for (String word : new String[] {"whole", "7", "(", ";", "not", "take", "from"}) {
            due.is(word + " where a line is due", Texts.law(x, 0, "hire 1 ; " + word), Texts.fault(1, 9));
        }
        due.is("a second <", Texts.law(x, 0, "hire 1 < 2 < 3 ;"), Texts.fault(1, 11));
        due.is("a = behind a < and a sum", Texts.law(x, 0, "hire 1 < 2 + 3 = 3 ;"), Texts.fault(1, 15));
        value(due, x, "hire 1 < 2 and 2 = 2;", 1);
        value(due, x, "hire (1 < 2) < 3;", 1);
        due.is("; within one (", Texts.law(x, 0, "hire ( 1 ;"), Texts.fault(1, 9));
        due.is("; within two", Texts.law(x, 0, "hire ( ( 1 ) ;"), Texts.fault(1, 13));
        due.is(") too much", Texts.law(x, 0, "hire ( 1 ) ) ;"), Texts.fault(1, 11));
        due.is("shut without when", Texts.law(x, 0, "shut 1 ;"), Texts.fault(1, 5));
        due.is("hire with when", Texts.law(x, 0, "hire when 1 ;"), Texts.fault(1, 5));
    }

    @Says(at = "==== 3.", words = "3 the word hire, part, shut, opens a second time")
    static void aSecondTimeInAnotherTextIsFine(Due due) {
        RiverWage x = oneKitchen();
        due.is("a fault", Texts.law(x, 0, "part 1 ; part 1 ;"), Texts.fault(3, 9));
        due.is("after a fault it is the first time", Texts.law(x, 0, "part 1 ;"), 0);
        due.is("in another law, too", Texts.law(x, 1, "part 1 ;"), 0);
        due.is("a third time counts at the second", Texts.law(x, 0, "part 1 ; part 1 ; part 1 ;"), Texts.fault(3, 9));
    }

    @Says(at = "==== 3.", words = "5 not, or a PART, within 5 others")
    static void eachKindOfPartWithin5(Due due) {
        RiverWage x = oneKitchen();
        for (String part : new String[] {"7", "half", "not 7", "(7)", "not"}) {
            due.is(part + " within 5 (", Texts.law(x, 0, "hire(((((" + part + ")))));"), Texts.fault(5, 9));
            due.is(part + " within 5 not", Texts.law(x, 0, "hire not not not not not " + part + ";"), Texts.fault(5, 25));
        }
        due.is("6 (", Texts.law(x, 0, "hire((((((1))))));"), Texts.fault(5, 9));
        due.is("a second PART", Texts.law(x, 0, "hire((((1+(2)))));"), Texts.fault(5, 11));
        due.is("in shut, too", Texts.law(x, 0, "shut when (((((1)))));"), Texts.fault(5, 15));
    }

    @Says(at = "==== 3.", words = "Without a FAULT it is that LAW from then on (at first they are empty)")
    static void lawsAreEmptyAtFirst(Due due) {
        RiverWage x = oneKitchen();
        for (int law = 0; law < 4; law++) {
            due.is("empty law " + law, x.world(law, 9999, 0, 11), 100);
        }
        due.is("a fault", Texts.law(x, 0, "hire 5 ; ?"), Texts.fault(1, 9));
        due.is("empty still", x.world(0, 0, 0, 1), 100);
        value(due, x, "hire 5 ;", 5);
        due.is("a fault in the last line", Texts.law(x, 0, "hire 6 ; part 9"), Texts.fault(1, 15));
        due.is("as it was", x.world(0, 0, 0, 1), 50);
        due.is("an empty text", x.law(0), 0);
        due.is("empty again", x.world(0, 0, 0, 1), 100);
    }

    // ---- ==== 3.: WORLDS ----

    @Says(at = "==== 3.", words = "A WORLD of a LAW with a SEED (0 to 9999)")
    static void seeds0To9999(Due due) {
        RiverWage x = oneKitchen();
        Texts.law(x, 0, "hire draw ;");
        due.is("seed 0", x.world(0, 0, 0, 1), 10 * draw(0, 1));
        due.is("seed 9999", x.world(0, 9999, 0, 1), 10 * draw(9999, 1));
        due.is("seed 9998", x.world(0, 9998, 0, 11), 10 * draw(9998, 11));
        due.isFor("seed", Edge.beyond(0, 9999), seed -> x.world(0, seed, 0, 1), NONE);
    }

    /** The draw of a SEED after so many steps, by whole numbers of any size. */
    private static int draw(long seed, int steps) {
        BigInteger g = BigInteger.valueOf(seed);
        for (int i = 0; i < steps; i++) {
            g = g.multiply(BigInteger.valueOf(1103515245)).add(BigInteger.valueOf(12345));
            g = g.mod(BigInteger.valueOf(2147483648L));
        }
        return g.divide(BigInteger.valueOf(65536)).mod(BigInteger.TEN).intValue();
    }

    @Says(at = "==== 3.", words = "(SILENT: no hands, not SHUT)")
    static void silentInMonth0(Due due) {
        RiverWage x = oneKitchen();
        x.kitchen(1, 0, 1, 1, false);
        x.call(1, 1, 50, 50);
        x.kitchen(2, 0, 1, 1, false);
        x.call(2, 0, NONE, NONE);
        Texts.law(x, 0, "hire whole + 1 + was * 50 ; opens when month = 2 ;");
        due.is("no hands in month 0", x.world(0, 0, 1, 0), 0);
        due.is("not shut: it hires in month 1", x.world(0, 0, 1, 1), 10);
        due.is("calls of later months don't matter", x.world(0, 0, 1, 2), 20);
        due.is("a shut one doesn't hire", x.world(0, 0, 2, 1), 0);
        due.is("until it opens", x.world(0, 0, 2, 2), 510);
    }

    @Says(at = "==== 3.", words = "g is SEED at first; in each MONTH from 1 to 11, for each KITCHEN told, by numbers")
    static void aStepForEachKitchenToldAlone(Due due) {
        RiverWage x = oneKitchen();
        x.kitchen(23, 1, 1, 1, false);
        x.call(23, 0, NONE, NONE);
        Texts.law(x, 0, "hire draw ; opens when month = 11 ;");
        due.is("the first step", x.world(0, 77, 0, 1), 10 * draw(77, 1));
        due.is("a shut one takes the second", x.world(0, 77, 0, 2), 10 * draw(77, 3));
        due.is("the last but one", x.world(0, 77, 0, 11), 10 * draw(77, 21));
        due.is("the last one", x.world(0, 77, 23, 11), 10 * draw(77, 22));
        due.is("month 0 is no step", x.world(0, 77, 0, 0), 100);
        x.kitchen(5, 1, 1, 1, false);
        due.is("one told since takes its step", x.world(0, 77, 0, 2), 10 * draw(77, 4));
    }

    @Says(at = "==== 3.", words = "g becomes (g * 1103515245 + 12345) modulo 2147483648, draw is g / 65536, cut, modulo 10")
    static void drawsOfManySteps(Due due) {
        RiverWage x = new RiverWage();
        for (int k = 0; k < 24; k++) {
            x.kitchen(k, k % 2, 1, 1, false);
        }
        Texts.law(x, 0, "hire draw ;");
        int[] seeds = {0, 1, 4999, 9999};
        for (int seed : seeds) {
            for (int m = 1; m < 12; m += 5) {
                for (int k = 0; k < 24; k += 23) {
                    due.is("draw", x.world(0, seed, k, m), 10 * draw(seed, 24 * (m - 1) + k + 1));
                }
            }
        }
    }

    @Says(at = "==== 3.", words = "0 if they are below, 99 if above")
    static void handsFrom0To99(Due due) {
        RiverWage x = oneKitchen();
        x.tenths(10);
        int[][] wants = {{0, 0}, {1, 1}, {98, 98}, {99, 99}, {100, 99}, {9999, 99}};
        for (int[] want : wants) {
            Texts.law(x, 0, "hire " + want[0] + " ; part 0 ;");
            due.is("hire " + want[0], x.world(0, 0, 0, 1), 10 * want[1]);
            Texts.law(x, 0, "part " + want[0] + " ; hire 0 ;");
            due.is("part " + want[0], x.world(0, 0, 0, 1), 10 * want[1]);
        }
        Texts.law(x, 0, "hire 0 - 1 ; part 0 - 9999 ;");
        due.is("below", x.world(0, 0, 0, 1), 0);
        Texts.law(x, 0, "hire 8192*8192*32 ; part 8192*8192*32 - 1 ;");
        due.is("the least int and the greatest", x.world(0, 0, 0, 1), 990);
        Texts.law(x, 0, "hire whole - 60 ; part whole ;");
        due.is("cut before the next month", x.world(0, 0, 0, 2), 0);
        Texts.law(x, 0, "hire whole + 60 ; part whole = 99 ;");
        due.is("cut to 99 before the next month", x.world(0, 0, 0, 3), 990 + 10);
    }

    @Says(at = "==== 3.", words = "(as they were without such a line)")
    static void withoutALine(Due due) {
        RiverWage x = oneKitchen();
        x.tenths(1);
        Texts.law(x, 0, "hire 2 ;");
        due.is("without part", x.world(0, 0, 0, 11), 24);
        Texts.law(x, 0, "part 2 ;");
        due.is("without hire", x.world(0, 0, 0, 11), 102);
        Texts.law(x, 0, "shut when month = 3 ;");
        due.is("without both", x.world(0, 0, 0, 2), 104);
        due.is("shut", x.world(0, 0, 0, 3), 0);
        due.is("without opens it stays shut", x.world(0, 0, 0, 11), 0);
        Texts.law(x, 0, "opens when 0 ;");
        due.is("without shut it stays open", x.world(0, 0, 0, 11), 104);
    }

    @Says(at = "==== 3.", words = "(Of a SHUT one whole and half are 0.)")
    static void aShutOneHasNoHands(Due due) {
        RiverWage x = oneKitchen();
        x.tenths(10);
        Texts.law(x, 0, "shut when month = 1 ; opens when month = 2 ;");
        due.is("open again as it was: without hands", x.world(0, 0, 0, 2), 0);
        Texts.law(x, 0, "hire whole + 3 ; part half + 2 ; shut when month = 1 ; opens when month = 2 ;");
        due.is("open again", x.world(0, 0, 0, 2), 50);
        Texts.law(x, 0, "hire 1 ; part 0 ; shut when month = 1 ; opens when whole + half = 0 ;");
        due.is("facts of a shut one", x.world(0, 0, 0, 2), 10);
        x.call(0, 0, NONE, NONE);
        Texts.law(x, 0, "hire 1 + whole ; part half ; opens when 1 - was ;");
        due.is("was is 1 of a shut one", x.world(0, 0, 0, 11), 0);
    }

    @Says(at = "==== 3.", words = "FITS of a LAW with so many SEEDS (0 up to it, without that one; 1 to 20)")
    static void seedsUpTo20(Due due) {
        RiverWage x = oneKitchen();
        x.call(0, 1, 0, 0);
        Texts.law(x, 0, "hire draw ; part 0 ;");
        long sum = 0;
        for (int seeds = 1; seeds <= 20; seeds++) {
            sum += 10 * draw(seeds - 1, 1);
            due.is(seeds + " seeds", x.fits(0, seeds), sum);
        }
        due.isFor("seeds", BEYOND_SEEDS, seeds -> x.fits(0, seeds), NONE);
        due.isFor("seeds", BEYOND_SEEDS, seeds -> x.best(seeds), NONE);
    }

    @Says(at = "==== 3.", words = "over KITCHENS and MONTHS 1 to 11 that are not SILENT, of how far HANDS lie from those told")
    static void monthsThatFit(Due due) {
        RiverWage x = oneKitchen();
        due.is("month 0 is none of them", x.fits(0, 1), 0);
        x.call(0, 1, 9, 0);
        due.is("month 1", x.fits(0, 1), 10);
        x.call(0, 11, 12, 0);
        due.is("month 11, above", x.fits(0, 1), 30);
        x.call(0, 5, NONE, NONE);
        due.is("a shut one has no hands", x.fits(0, 1), 130);
        x.call(0, 5, 0, NONE);
        due.is("a silent one isn't told", x.fits(0, 1), 30);
        x.tenths(10);
        due.is("by tenths of both", x.fits(0, 1), 50 + 20);
        RiverWage y = new RiverWage();
        y.tenths(10);
        for (int k = 0; k < 24; k++) {
            y.kitchen(k, 0, 1, 1, false);
            for (int m = 1; m < 12; m++) {
                y.call(k, m, 99, 99);
            }
        }
        due.is("the most there can be", y.fits(0, 20), 24L * 11 * 20 * 1980);
    }

    @Says(at = "==== 3.", words = "BEST LAW: the one with the least; of equal ones the first")
    static void ofEqualLawsTheFirst(Due due) {
        RiverWage x = oneKitchen();
        x.call(0, 1, 12, 0);
        due.is("all empty", x.best(1), 0);
        Texts.law(x, 3, "hire 12 ;");
        due.is("the last one", x.best(20), 3);
        Texts.law(x, 1, "hire 12 ;");
        due.is("of 1 and 3", x.best(20), 1);
        Texts.law(x, 0, "hire 13 ;");
        due.is("law 0 is by one hand off", x.best(20), 1);
        Texts.law(x, 0, "hire 6 + 6 ;");
        due.is("of 0, 1 and 3", x.best(20), 0);
    }

    @Says(at = "==== 3.", words = "is below, is, is above 0")
    static void riversBelowAtAndAbove0(Due due) {
        RiverWage x = Edge.twoKitchens();
        x.tenths(1);
        String[] laws = {"part bank ;", "part 1 ;", "part 1 - bank ;"};
        for (int i = 0; i < 3; i++) {
            Texts.law(x, i, laws[i]);
            for (int what = 0; what < 3; what++) {
                due.is(laws[i] + " " + what, x.rivers(i, 20, 0, 11, what), what == i ? 20 : 0);
                due.is(laws[i] + " backwards " + what, x.rivers(i, 20, 11, 0, 2 - what), what == i ? 20 : 0);
            }
        }
    }

    @Says(at = "==== 3.", words = "of KITCHENS COUNTED by CALLS")
    static void riversOfThoseCountedByCalls(Due due) {
        RiverWage x = Edge.twoKitchens();
        x.kitchen(2, 0, 999, 1, false);
        x.call(2, 0, 50, 0);
        Texts.law(x, 0, "hire whole + (wage = 999) ;");
        due.is("one that is silent in a isn't", x.rivers(0, 3, 0, 11, 1), 3);
        x.call(2, 11, NONE, NONE);
        due.is("a shut one is, with its hands of the world", x.rivers(0, 3, 0, 11, 2), 3);
        x.call(2, 0, 50, NONE);
        due.is("one that is silent in b isn't", x.rivers(0, 3, 0, 11, 1), 3);
    }

    // ---- ==== 4. ----

    @Says(at = "==== 4.", words = "OTHER RIVERS, 20 at most")
    static void otherRivers20AtMost(Due due) {
        RiverWage x = new RiverWage();
        for (int i = 0; i < 20; i++) {
            due.is("number", x.other(9999, 999, true), i);
        }
        due.is("a 21st", x.other(1, 1, true), NONE);
        due.is("20 still", x.count(3), 20);
        due.isFraction("their mean", what -> x.others(true, what), 0, 1111, 111);
        x.mark(0, false);
        due.is("full still", x.other(1, 1, false), NONE);
        due.is("the most in a drawer", x.drawer(1), 20 * 9999);
    }

    @Says(at = "==== 4.", words = "a sum (-9999 to 9999) of n (1 to 999) KITCHENS, PRINTED or not")
    static void sumsAndSizesOfOtherRivers(Due due) {
        RiverWage x = new RiverWage();
        due.isFor("sum", Edge.beyond(-9999, 9999), sum -> x.other(sum, 1, true), NONE);
        due.isFor("n", Edge.beyond(1, 999), n -> x.other(1, n, true), NONE);
        due.is("none", x.count(3), 0);
        due.is("least sum", x.other(-9999, 1, true), 0);
        due.isFraction("its mean", what -> x.others(true, what), 0, -9999, 1);
        due.is("greatest sum", x.other(9999, 999, false), 1);
        due.isFraction("of both", what -> x.others(false, what), 0, 0, 1);
    }

    @Says(at = "==== 4.", words = "would bring the MEAN of PRINTED ones to 0 or beyond: the least number (0 if it is 0)")
    static void theLeastNumberInADrawer(Due due) {
        RiverWage x = new RiverWage();
        x.other(10, 7, true);
        due.is("right to 0", x.drawer(10), 1);
        due.is("right to 0 by two", x.drawer(5), 2);
        due.is("beyond", x.drawer(11), 1);
        due.is("just not by one", x.drawer(9), 2);
        due.is("by one each", x.drawer(1), 10);
        x.other(-20, 999, true);
        due.is("below 0, right to it", x.drawer(10), 1);
        due.is("below 0, beyond", x.drawer(6), 2);
        x.other(10, 1, true);
        due.isFor("0", new int[] {1, 10, 999}, x::drawer, 0);
        x.other(500, 1, false);
        due.isFor("those not printed don't count", new int[] {1, 999}, x::drawer, 0);
    }

    @Says(at = "==== 4.", words = "MARKS 0 to 3 hold all that is told by CALLS and SHEETS")
    static void marks0To3(Due due) {
        RiverWage x = oneKitchen();
        for (int mark = 0; mark < 4; mark++) {
            x.call(0, 0, mark, 0);
            x.sheet(0, 0, 10 + mark, 0);
            due.is("laid " + mark, x.mark(mark, false), true);
        }
        for (int mark = 3; mark >= 0; mark--) {
            due.is("back to " + mark, x.mark(mark, true), true);
            due.is("its call", x.hands(0, 0), 10 * mark);
            due.is("its sheet", x.slips(0, 2), 100);
        }
        due.isFor("mark", BEYOND_TEXTS, mark -> x.mark(mark, false) ? 1 : 0, 0);
        due.isFor("mark back", BEYOND_TEXTS, mark -> x.mark(mark, true) ? 1 : 0, 0);
    }

    @Says(at = "==== 4.", words = "those told since are gone when one is gone back to (unless fewer are there)")
    static void otherRiversToldSinceAreGone(Due due) {
        RiverWage x = new RiverWage();
        x.mark(0, false);
        for (int i = 0; i < 20; i++) {
            x.other(i, 1, true);
        }
        x.mark(1, false);
        due.is("back when full", x.mark(1, true), true);
        due.is("20", x.count(3), 20);
        due.is("back to none", x.mark(0, true), true);
        due.is("none", x.count(3), 0);
        due.throwsNone("no mean", () -> x.others(false, 0));
        due.is("20 were there then", x.mark(1, true), false);
        due.is("numbers begin again", x.other(5, 2, false), 0);
        due.is("fewer are there", x.mark(1, true), false);
        due.is("it is still there", x.count(3), 1);
        due.isFraction("its mean", what -> x.others(false, what), 0, 5, 2);
    }

    // ---- promises 20 to 28 ----

    @Says(at = "Promise 20", words = "the bytes of a, b, c, of each the highest first")
    static void theHighestByteFirst(Due due) {
        RiverWage x = oneKitchen();
        due.is("24 signs", x.feed(Texts.eight("hire 1+2", 0), Texts.eight("+3+4+5+6", 0), Texts.eight("+7+8*3 ;", 0)), 24);
        due.is("in that order", x.law(0), 0);
        due.is("its value", x.world(0, 0, 0, 1), 520);
        due.is("nothing", x.feed(0, 0, 0), 0);
        due.is("the highest byte alone", x.feed(0x3B00000000000000L, 0, 0), 1);
        due.is("the lowest byte alone", x.feed(0, 0, 0x3BL), 2);
        due.is("their places", x.law(0), Texts.fault(1, 0));
    }

    @Says(at = "Promise 20", words = "others than 10 and 32 .. 126")
    static void everyByteThatIsNoSignIsLeftOut(Due due) {
        RiverWage x = new RiverWage();
        int signs = 0;
        for (int sign = 0; sign < 256; sign++) {
            boolean isSign = sign == 10 || sign >= 32 && sign <= 126;
            signs += isSign ? 1 : 0;
            due.is("byte " + sign, x.feed((long) sign << 56, 0, 0), signs);
        }
        due.is("96 of 256", x.count(6), 96);
        due.is("all bits", x.feed(-1, -1, -1), 96);
        due.is("the lowest long", x.feed(Long.MIN_VALUE, Long.MIN_VALUE, Long.MIN_VALUE), 96);
        due.is("those between are kept", x.feed(0x00413FFF2A80090AL, 0, 0), 100);
    }

    @Says(at = "Promise 20", words = "and what is beyond 1,000, are left out: how many there are")
    static void whatIsBeyond1000IsLeftOut(Due due) {
        RiverWage x = oneKitchen();
        long blanks = 0x2020202020202020L;
        for (int i = 1; i <= 41; i++) {
            due.is("24 more", x.feed(blanks, blanks, blanks), 24 * i);
        }
        due.is("15 more", x.feed(blanks, 0x2020202020202000L, 0), 999);
        due.is("one fits", x.feed(Texts.eight(";?", 0), 0, 0), 1000);
        due.is("none fits", x.feed(blanks, blanks, blanks), 1000);
        due.is("what is no sign neither", x.feed(0, 0, 0), 1000);
        due.is("the last that fitted", x.law(0), Texts.fault(1, 999));
        due.is("empty then", x.feed(0, 0, 0), 0);
    }

    @Says(at = "Promise 21", words = "its FAULT (it stays as it was)")
    static void aLawWithAFaultStays(Due due) {
        RiverWage x = oneKitchen();
        due.is("law", Texts.law(x, 2, "hire 5 ; part 1 ;"), 0);
        for (String text : new String[] {"hire 6 ; hire", "hire 6 ; part", "hire 6 ; shut when 1 ; ?", "hire(((((6)))));"}) {
            due.is("a fault of " + text, Texts.law(x, 2, text) > 0, true);
            due.is("it stays", x.world(2, 0, 0, 11), 50);
        }
    }

    @Says(at = "Promise 21", words = "-1: no such number (the TAPE is empty)")
    static void noSuchLawEmptiesTheTape(Due due) {
        RiverWage x = oneKitchen();
        for (int law : BEYOND_TEXTS) {
            Texts.feed(x, "hire 5 ;");
            due.is("law " + law, x.law(law), -1);
            due.is("the tape", x.count(6), 0);
        }
        due.isFor("the laws stay", new int[] {0, 1, 2, 3}, law -> x.world(law, 0, 0, 1), 100);
    }

    @Says(at = "Promise 22", words = "HANDS of a KITCHEN in a MONTH of a WORLD (SHUT: 0)")
    static void worldFromMonth0To11(Due due) {
        RiverWage x = oneKitchen();
        x.kitchen(1, 0, 1, 1, false);
        x.call(1, 0, NONE, NONE);
        Texts.law(x, 0, "hire whole + 1 ;");
        for (int m = 0; m < 12; m++) {
            due.is("month " + m, x.world(0, 0, 0, m), 100 + 10 * m);
            due.is("shut in month " + m, x.world(0, 0, 1, m), 0);
        }
    }

    @Says(at = "Promise 22", words = "NONE: none such")
    static void noSuchWorld(Due due) {
        RiverWage x = oneKitchen();
        due.isFor("law", BEYOND_TEXTS, law -> x.world(law, 0, 0, 0), NONE);
        due.isFor("seed", Edge.beyond(0, 9999), seed -> x.world(0, seed, 0, 0), NONE);
        due.isFor("kitchen", Edge.beyond(0, 23), k -> x.world(0, 0, k, 0), NONE);
        due.isFor("not told", new int[] {1, 23}, k -> x.world(0, 0, k, 0), NONE);
        due.isFor("month", BEYOND_MONTHS, m -> x.world(0, 0, 0, m), NONE);
    }

    @Says(at = "Promise 23", words = "NONE: others")
    static void fitsRefuses(Due due) {
        RiverWage x = oneKitchen();
        due.isFor("law", BEYOND_TEXTS, law -> x.fits(law, 1), NONE);
        due.isFor("seeds", BEYOND_SEEDS, seeds -> x.fits(0, seeds), NONE);
        due.isFor("laws 0 to 3", new int[] {0, 1, 2, 3}, law -> x.fits(law, 20), 0);
    }

    @Says(at = "Promise 24", words = "NONE: others")
    static void bestRefuses(Due due) {
        RiverWage x = oneKitchen();
        due.isFor("seeds", BEYOND_SEEDS, seeds -> x.best(seeds), NONE);
        due.isFor("1 and 20", new int[] {1, 20}, seeds -> x.best(seeds), 0);
    }

    @Says(at = "Promise 25", words = "NONE: others")
    static void riversRefuse(Due due) {
        RiverWage x = Edge.twoKitchens();
        due.isFor("law", BEYOND_TEXTS, law -> x.rivers(law, 1, 0, 11, 1), NONE);
        due.isFor("seeds", BEYOND_SEEDS, seeds -> x.rivers(0, seeds, 0, 11, 1), NONE);
        due.isFor("b", BEYOND_MONTHS, b -> x.rivers(0, 1, b, 11, 1), NONE);
        due.isFor("a", BEYOND_MONTHS, a -> x.rivers(0, 1, 0, a, 1), NONE);
        due.isFor("what", Edge.beyond(0, 2), what -> x.rivers(0, 1, 0, 11, what), NONE);
        due.isFor("1 and 20 seeds", new int[] {1, 20}, seeds -> x.rivers(3, seeds, 0, 11, 1) - seeds, 0);
    }

    @Says(at = "Promise 25", words = "no RIVER")
    static void noRiversWithoutARiver(Due due) {
        RiverWage x = Edge.twoKitchens();
        due.isFor("silent months", new int[] {0, 1, 2}, what -> x.rivers(0, 1, 0, 5, what), NONE);
        x.call(0, 0, 0, NONE);
        due.isFor("none counted on bank 0", new int[] {0, 1, 2}, what -> x.rivers(0, 1, 0, 11, what), NONE);
        x.call(0, 0, 0, 0);
        x.call(1, 11, 0, NONE);
        due.isFor("none counted on bank 1", new int[] {0, 1, 2}, what -> x.rivers(0, 1, 0, 11, what), NONE);
    }

    @Says(at = "Promise 26", words = "NONE: others")
    static void otherRefuses(Due due) {
        RiverWage x = new RiverWage();
        due.isFor("sum", Edge.beyond(-9999, 9999), sum -> x.other(sum, 5, false), NONE);
        due.isFor("n", new int[] {0, -1, 1000, Integer.MIN_VALUE, Integer.MAX_VALUE}, n -> x.other(5, n, false), NONE);
        due.is("none", x.count(3), 0);
        due.is("the first number", x.other(0, 999, false), 0);
        due.is("the next one", x.other(0, 1, true), 1);
        due.is("one is printed", x.count(4), 1);
    }

    @Says(at = "Promise 26", words = "20 are there")
    static void otherWhen20AreThere(Due due) {
        RiverWage x = new RiverWage();
        for (int i = 0; i < 19; i++) {
            x.other(0, 1, true);
        }
        x.mark(0, false);
        due.is("the 20th", x.other(7, 1, false), 19);
        due.is("the 21st", x.other(8, 1, true), NONE);
        due.is("printed", x.count(4), 19);
        x.mark(0, true);
        due.is("room again", x.other(9, 1, true), 19);
        due.is("printed", x.count(4), 20);
        due.is("full again", x.other(8, 1, true), NONE);
    }

    @Says(at = "Promise 27", words = "NoSuchElementException: others")
    static void othersRefuse(Due due) {
        RiverWage x = new RiverWage();
        x.other(1, 1, true);
        due.throwsFor("what", Edge.beyond(0, 1), what -> x.others(true, what));
        due.throwsFor("what", Edge.beyond(0, 1), what -> x.others(false, what));
    }

    @Says(at = "Promise 27", words = "others, none.")
    static void noMeanOfNone(Due due) {
        RiverWage x = new RiverWage();
        due.throwsNone("none", () -> x.others(false, 0));
        due.throwsNone("none printed", () -> x.others(true, 0));
        x.other(6, 4, false);
        due.isFraction("of all", what -> x.others(false, what), 0, 3, 2);
        due.throwsNone("none printed still", () -> x.others(true, 1));
        x.other(0, 5, true);
        due.isFraction("a printed one", what -> x.others(true, what), 0, 0, 1);
    }

    @Says(at = "Promise 28", words = "NONE: another n (1 to 999)")
    static void drawerRefuses(Due due) {
        RiverWage x = new RiverWage();
        x.other(9999, 1, true);
        due.isFor("n", Edge.beyond(1, 999), x::drawer, NONE);
        due.is("n 1", x.drawer(1), 9999);
        due.is("n 999", x.drawer(999), 11);
    }

    @Says(at = "Promise 28", words = "no PRINTED one")
    static void noDrawerWithoutAPrintedOne(Due due) {
        RiverWage x = new RiverWage();
        due.is("none", x.drawer(1), NONE);
        x.other(5, 1, false);
        due.is("none printed", x.drawer(1), NONE);
        x.mark(0, false);
        x.other(5, 1, true);
        due.is("one", x.drawer(1), 5);
        x.mark(0, true);
        due.is("gone", x.drawer(1), NONE);
    }
}
