/** Boundary cases of ==== 5. to ==== 9. and of promises 29 to 42: WRITERS, BOOKS, LOTS, SLIPS, WHERE NEXT, MARKS, counts. */
final class WriterCases {
    private static final int NONE = RiverWage.NONE;
    private static final int[] BEYOND_TEXTS = Edge.beyond(0, 3);
    private static final int[] BEYOND_MONTHS = Edge.beyond(0, 11);
    private static final int[] BEYOND_FRACTION = Edge.beyond(0, 1);

    private WriterCases() {
    }

    // ---- ==== 5. ----

    @Says(at = "==== 5.", words = "WRITERS 0 to 3 have a text each (none at first)")
    static void writers0To3(Due due) {
        RiverWage x = Edge.twoKitchens();
        for (int writer = 0; writer < 4; writer++) {
            int w = writer;
            due.is("takes all at first", x.takes(writer, 0) + x.takes(writer, 1), 2);
            due.isFraction("its river at first", what -> x.writes(w, what), 0, -10, 1);
        }
        for (int writer = 0; writer < 4; writer++) {
            due.is("text", Texts.writer(x, writer, "take when number = " + writer + " ;"), 0);
        }
        for (int writer = 0; writer < 4; writer++) {
            due.is("takes 0", x.takes(writer, 0), writer == 0 ? 1 : 0);
            due.is("takes 1", x.takes(writer, 1), writer == 1 ? 1 : 0);
        }
        due.isFor("writer", BEYOND_TEXTS, writer -> x.writer(writer), NONE);
    }

    @Says(at = "==== 5.", words = "each once at most, in any order")
    static void linesOfAWriterOnceAtMost(Due due) {
        RiverWage x = Edge.twoKitchens();
        due.is("all", Texts.writer(x, 0, "take when 1;from 0;to 11;tenths 5;"), 0);
        due.is("the other way round", Texts.writer(x, 0, "tenths 5;to 11;from 0;take when 1;"), 0);
        due.is("take again", Texts.writer(x, 0, "take when 1;take when 1;"), Texts.fault(3, 12));
        due.is("from again", Texts.writer(x, 0, "from 1;to 1;from 1;"), Texts.fault(3, 12));
        due.is("to again", Texts.writer(x, 0, "to 1;from 1;to 1;"), Texts.fault(3, 12));
        due.is("tenths again", Texts.writer(x, 0, "tenths 1;tenths"), Texts.fault(3, 9));
        due.is("none", x.writer(0), 0);
    }

    @Says(at = "==== 5.", words = "from, to: MONTHS (0, 11 without)")
    static void monthsOfAWriter(Due due) {
        RiverWage x = new RiverWage();
        x.kitchen(0, 0, 1, 1, false);
        x.kitchen(1, 1, 1, 1, false);
        for (int m = 0; m < 12; m++) {
            x.call(0, m, m, 0);
            x.call(1, m, 0, 0);
        }
        writes(due, x, "", 110);
        writes(due, x, "from 0 ; to 11 ;", 110);
        writes(due, x, "from 11 ; to 0 ;", -110);
        writes(due, x, "from 1 ;", 100);
        writes(due, x, "to 1 ;", 10);
        writes(due, x, "to 0010 ; from 0009 ;", 10);
        due.is("from 12", Texts.writer(x, 0, "from 12 ;"), Texts.fault(4, 5));
        due.is("to 12", Texts.writer(x, 0, "to 12 ;"), Texts.fault(4, 3));
        due.is("from 9999", Texts.writer(x, 0, "from 9999 ;"), Texts.fault(4, 5));
    }

    private static void writes(Due due, RiverWage x, String text, long above) {
        due.is("no fault of '" + text + "'", Texts.writer(x, 0, text), 0);
        due.isFraction("river by '" + text + "'", what -> x.writes(0, what), 0, above, 1);
    }

    @Says(at = "==== 5.", words = "tenths: 0 to 10 (those of a half hand, as told now, without)")
    static void tenthsOfAWriter(Due due) {
        RiverWage x = Edge.twoKitchens();
        x.call(0, 11, 4, 1);
        writes(due, x, "", -5);
        x.tenths(7);
        due.is("as told now", x.writes(0, 0), -3);
        writes(due, x, "tenths 0 ;", -10);
        writes(due, x, "tenths 10 ;", 0);
        x.tenths(3);
        due.is("its own stay", x.writes(0, 0), 0);
        due.is("tenths 11", Texts.writer(x, 0, "tenths 11 ;"), Texts.fault(4, 7));
        due.is("tenths 9999", Texts.writer(x, 0, "tenths 9999 ;"), Texts.fault(4, 7));
        due.is("the text stays", x.writes(0, 0), 0);
    }

    @Says(at = "==== 5.", words = "silent, shut (in how many of the 12 MONTHS it is so by CALLS)")
    static void silentAndShutMonths(Due due) {
        RiverWage x = new RiverWage();
        x.kitchen(0, 0, 1, 1, false);
        takes(due, x, "silent = 12 and shut = 0");
        for (int m = 0; m < 12; m++) {
            x.sheet(0, m, 1, 1);
        }
        takes(due, x, "silent = 12 and shut = 0");
        x.call(0, 11, NONE, NONE);
        takes(due, x, "silent = 11 and shut = 1");
        for (int m = 0; m < 12; m++) {
            x.call(0, m, NONE, NONE);
        }
        takes(due, x, "silent = 0 and shut = 12");
        x.call(0, 0, 0, 0);
        takes(due, x, "silent = 0 and shut = 11");
        x.call(0, 0, 0, NONE);
        takes(due, x, "silent = 1 and shut = 11");
    }

    private static void takes(Due due, RiverWage x, String test) {
        due.is("no fault of '" + test + "'", Texts.writer(x, 0, "take when " + test + ";"), 0);
        due.is("taken when " + test, x.takes(0, 0), 1);
    }

    private static void leaves(Due due, RiverWage x, String test) {
        due.is("no fault of '" + test + "'", Texts.writer(x, 0, "take when " + test + ";"), 0);
        due.is("not taken when " + test, x.takes(0, 0), 0);
    }

    @Says(at = "==== 5.", words = "bound (1 if its WAGE is below the FLOOR of its BANK in the MONTH to)")
    static void boundByTheFloorInTheMonthTo(Due due) {
        RiverWage x = new RiverWage();
        x.kitchen(0, 1, 500, 1, false);
        x.floor(0, 0, 999, 0);
        takes(due, x, "bound = 0");
        x.floor(1, 11, 500, 0);
        takes(due, x, "bound = 0");
        x.floor(1, 11, 501, 0);
        takes(due, x, "bound = 1");
        takes(due, x, "bound = 0 ; to 10");
        x.floor(1, 0, 501, 0);
        x.floor(1, 11, 0, 0);
        takes(due, x, "bound = 0 ; from 0");
        takes(due, x, "bound = 1 ; from 11 ; to 0");
    }

    @Says(at = "==== 5.", words = "hands (HANDS in the MONTH from, by the TENTHS of this text; 0 if SILENT)")
    static void handsOfAWriter(Due due) {
        RiverWage x = new RiverWage();
        x.kitchen(0, 0, 1, 1, false);
        takes(due, x, "hands = 0");
        x.call(0, 11, 99, 99);
        takes(due, x, "hands = 0");
        takes(due, x, "hands = 1485 ; from 11");
        takes(due, x, "hands = 990 ; from 11 ; tenths 0");
        takes(due, x, "hands = 1980 ; tenths 10 ; from 11");
        x.tenths(1);
        takes(due, x, "hands = 1089 ; from 11");
        x.call(0, 11, NONE, NONE);
        takes(due, x, "hands = 0 ; from 11");
    }

    @Says(at = "==== 5.", words = "FAULTS likewise, and 4 a NUMBER of from, to, tenths that is above that")
    static void faultsOfAWriter(Due due) {
        RiverWage x = new RiverWage();
        due.is("11", Texts.writer(x, 0, "from 11 ;"), 0);
        due.is("10", Texts.writer(x, 0, "tenths 10 ;"), 0);
        due.is("11 tenths", Texts.writer(x, 0, "tenths 11 ;"), Texts.fault(4, 7));
        due.is("a longer number is none", Texts.writer(x, 0, "from 00012 ;"), Texts.fault(1, 5));
        due.is("a second from before its number", Texts.writer(x, 0, "from 1 ; from 12 ;"), Texts.fault(3, 9));
        due.is("a number above before a second from", Texts.writer(x, 0, "from 12 ; from 12 ;"), Texts.fault(4, 5));
        due.is("no number", Texts.writer(x, 0, "to ;"), Texts.fault(1, 3));
        due.is("a sign", Texts.writer(x, 0, "to - 1 ;"), Texts.fault(1, 3));
        due.is("at the end", Texts.writer(x, 0, "to"), Texts.fault(1, 2));
        due.is("behind the number", Texts.writer(x, 0, "to 1 + 1 ;"), Texts.fault(1, 5));
        due.is("without ;", Texts.writer(x, 0, "to 1 "), Texts.fault(1, 5));
        due.is("within 5", Texts.writer(x, 0, "take when (((((1)))));"), Texts.fault(5, 15));
        due.is("a NUMBER of take may be above that", Texts.writer(x, 0, "take when 9999 ;"), 0);
        for (String fact : "whole half floor gap month trade draw was take from to tenths".split(" ")) {
            due.is(fact + " is no fact of a WRITER", Texts.writer(x, 0, "take when " + fact + ";"), Texts.fault(1, 10));
        }
        for (String line : "hire part shut opens bank when".split(" ")) {
            due.is(line + " is no line of a WRITER", Texts.writer(x, 0, line), Texts.fault(1, 0));
        }
    }

    @Says(at = "==== 5.", words = "the KITCHENS COUNTED that it TAKES (all without take)")
    static void countedAndTaken(Due due) {
        RiverWage x = Edge.twoKitchens();
        Edge.many(x, 0, 2, 1, 0, 9);
        x.kitchen(3, 1, 1, 1, false);
        writes(due, x, "", 30);
        writes(due, x, "take when number < 2 ;", -10);
        writes(due, x, "take when 1 ;", 30);
        Texts.writer(x, 0, "take when 0 ;");
        due.throwsNone("it takes none", () -> x.writes(0, 0));
        Texts.writer(x, 0, "take when bank = 0 or number = 3 ;");
        due.throwsNone("the one it takes isn't counted", () -> x.writes(0, 0));
        due.is("though it takes it", x.takes(0, 3), 1);
    }

    @Says(at = "==== 5.", words = "none if its MONTHS are the same")
    static void aWriterOfOneMonth(Due due) {
        RiverWage x = Edge.twoKitchens();
        for (String text : new String[] {"from 0 ; to 0 ;", "from 11 ; to 11 ;", "from 11 ;", "to 0 ;"}) {
            due.is("no fault of " + text, Texts.writer(x, 0, text), 0);
            due.throwsFor("river by " + text, new int[] {0, 1}, what -> x.writes(0, what));
            due.is("it takes all", x.takes(0, 0) + x.takes(0, 1), 2);
            due.is("three writers are left", x.forks(0), 33);
        }
    }

    @Says(at = "==== 5.", words = "each with 0, 1, .. 10 TENTHS (instead of its own)")
    static void forksFrom0To10Tenths(Due due) {
        RiverWage x = Edge.twoKitchens();
        x.call(0, 11, 4, 2);
        x.tenths(3);
        // by t TENTHS 10 + 2t against 20
        long[] wants = {44, 20, 20, -10, 1, 10, 1};
        for (int what = 0; what < 7; what++) {
            due.is("forks " + what, x.forks(what), wants[what]);
        }
        for (int writer = 0; writer < 4; writer++) {
            Texts.writer(x, writer, "tenths " + 3 * writer + " ;");
        }
        for (int what = 0; what < 7; what++) {
            due.is("forks with own tenths " + what, x.forks(what), wants[what]);
        }
        Texts.writer(x, 0, "from 11 ; to 0 ;");
        due.is("the least is the greatest turned round", x.forks(3), -10);
        Texts.writer(x, 1, "take when 30 < hands ; from 11 ; to 0 ;");
        due.is("below 0", x.forks(1), 5 + 5 + 10);
        for (int writer = 0; writer < 4; writer++) {
            Texts.writer(x, writer, "take when 0 ;");
        }
        due.is("none", x.forks(0), 0);
    }

    @Says(at = "==== 5.", words = "the least and the greatest")
    static void forksThatAreFractions(Due due) {
        RiverWage x = Edge.twoKitchens();
        Edge.many(x, 0, 2, 2, 1, 1);
        x.call(2, 11, 1, 1);
        // by t TENTHS (10 + t) by 3 less 20
        long[] wants = {44, 44, 0, -50, 3, -40, 3};
        for (int what = 0; what < 7; what++) {
            due.is("forks " + what, x.forks(what), wants[what]);
        }
        x.call(2, 11, 1, 5);
        // from (10 + 0) by 3 less 20 to (10 + 50) by 3 less 20
        wants = new long[] {44, 40, 0, -50, 3, 0, 1};
        for (int what = 0; what < 7; what++) {
            due.is("forks up to 0, " + what, x.forks(what), wants[what]);
        }
        for (int writer = 1; writer < 4; writer++) {
            Texts.writer(x, writer, "to 0 ;");
        }
        due.isFraction("the least is that of the first of all", x::forks, 3, -50, 3);
        due.isFraction("the greatest is that of the last", x::forks, 5, 0, 1);
        Texts.writer(x, 0, "from 11 ; to 0 ;");
        due.isFraction("the least is that of the last", x::forks, 3, 0, 1);
        due.isFraction("the greatest is that of the first of all", x::forks, 5, 50, 3);
    }

    @Says(at = "==== 5.", words = "Facts: bank, wage, most, chosen (1 or 0)")
    static void factsOfAWriterAtTheirEdges(Due due) {
        RiverWage x = new RiverWage();
        x.kitchen(0, 0, 0, 0, false);
        takes(due, x, "bank = 0 and wage = 0 and most = 0 and chosen = 0 and number = 0");
        x.kitchen(0, 1, 999, 99, true);
        takes(due, x, "bank = 1 and wage = 999 and most = 99 and chosen = 1 and number = 0");
        x.kitchen(23, 1, 999, 99, true);
        due.is("a text", Texts.writer(x, 0, "take when number = 23 ;"), 0);
        due.is("number 23", x.takes(0, 23), 1);
        due.is("number 0", x.takes(0, 0), 0);
    }

    // ---- ==== 6. to ==== 9. ----

    @Says(at = "==== 6.", words = "HOURS of a hand (0 to 999) and TAKINGS (0 to 99999), 0 at first")
    static void hoursAndTakings(Due due) {
        RiverWage x = Edge.twoKitchens();
        due.is("paid at first", x.booked(0, 0, 1), 0);
        due.is("rest at first", x.booked(0, 0, 2), 0);
        due.is("the most", x.book(0, 0, 999, 99999), true);
        due.isFor("hours", Edge.beyond(0, 999), hours -> x.book(0, 0, hours, 1) ? 1 : 0, 0);
        due.isFor("takings", Edge.beyond(0, 99999), takings -> x.book(0, 0, 1, takings) ? 1 : 0, 0);
        due.is("paid", x.booked(0, 0, 1), 30L * 999 * 400);
        due.is("rest", x.booked(0, 0, 2), 999990 - 30L * 999 * 400);
        due.is("the least", x.book(0, 0, 0, 0), true);
        due.is("paid", x.booked(0, 0, 1), 0);
        due.is("rest", x.booked(0, 0, 2), 0);
    }

    @Says(at = "==== 6.", words = "RATE is the greater of its WAGE and the FLOOR of its BANK in this MONTH")
    static void theRateIsTheGreater(Due due) {
        RiverWage x = Edge.twoKitchens();
        x.floor(1, 0, 999, 0);
        due.is("without a floor", x.booked(0, 0, 0), 400);
        x.floor(0, 0, 400, 0);
        due.is("as much", x.booked(0, 0, 0), 400);
        x.floor(0, 0, 399, 0);
        due.is("less", x.booked(0, 0, 0), 400);
        x.floor(0, 11, 401, 0);
        due.is("more", x.booked(0, 11, 0), 401);
        due.is("the month before", x.booked(0, 10, 0), 400);
    }

    @Says(at = "==== 6.", words = "PAID is HANDS * HOURS * RATE, REST 10 * TAKINGS less PAID")
    static void paidBeyondAnInt(Due due) {
        RiverWage x = new RiverWage();
        x.tenths(10);
        Edge.mostGrowth(x, 0, 0, 24);
        for (int k = 0; k < 24; k++) {
            x.book(k, 11, 999, 0);
            x.book(k, 0, 999, 99999);
        }
        long paid = 1980L * 999 * 999;
        due.is("of one", x.booked(0, 11, 1), paid);
        due.is("rest of one", x.booked(0, 11, 2), -paid);
        due.is("of none", x.booked(0, 0, 1), 0);
        due.is("rest of none", x.booked(0, 0, 2), 999990);
        long[] wants = {24 * paid, 24 * paid, 0, 0, -24L * 999990, -24 * paid - 24L * 999990};
        for (int what = 0; what < 6; what++) {
            due.is("of 24, " + what, x.closes(0, 0, 11, what), wants[what]);
        }
    }

    @Says(at = "==== 6.", words = "From b to a, over the COUNTED KITCHENS of a BANK, the sums of")
    static void theBooksClose(Due due) {
        RiverWage x = Edge.twoKitchens();
        x.floor(0, 11, 999, 0);
        x.book(0, 0, 999, 7);
        x.book(0, 11, 0, 0);
        x.book(1, 0, 1, 1);
        x.book(1, 11, 2, 3);
        long[] wants = {-30 * 999 * 400, 10 * 999 * 400, 40 * -999 * 400, 0, -70, -70 + 30 * 999 * 400};
        long[] backwards = {30 * 999 * 400, 0, 30 * 999 * 999, 30 * 999 * (400 - 999), 70, 70 - 30 * 999 * 400};
        for (int what = 0; what < 6; what++) {
            due.is("closes " + what, x.closes(0, 0, 11, what), wants[what]);
            due.is("closes backwards " + what, x.closes(0, 11, 0, what), backwards[what]);
        }
        due.is("the other bank", x.closes(1, 0, 11, 0), 50 * 2 * 500 - 30 * 1 * 500);
        x.call(0, 0, 0, NONE);
        due.isFor("not counted", new int[] {0, 1, 2, 3, 4, 5}, what -> x.closes(0, 0, 11, what), 0);
        x.call(0, 0, NONE, NONE);
        due.is("a shut one is counted", x.closes(0, 0, 11, 1), 40 * 999 * 400);
    }

    @Says(at = "==== 7.", words = "of the COUNTED KITCHENS (9 at most on each BANK) k (1 to 9) of each BANK are drawn")
    static void lotsOf9And9(Due due) {
        RiverWage x = new RiverWage();
        x.tenths(10);
        Edge.many(x, 0, 0, 8, 99, 0);
        Edge.mostGrowth(x, 0, 8, 1);
        Edge.many(x, 1, 9, 9, 99, 0);
        // above where the one that grew is among those drawn: k of 9
        for (int k = 1; k <= 9; k++) {
            int common = k % 9 == 0 ? 9 : k % 3 == 0 ? 3 : 1;
            int drawn = k;
            due.isFraction(k + " of 9", what -> x.lots(0, 11, drawn, what), 0, k / common, 9 / common);
        }
        due.isFor("k", Edge.beyond(1, 9), k -> x.lots(0, 11, k, 0), NONE);
        Edge.many(x, 0, 18, 1, 0, 0);
        due.isFor("10 on bank 0", new int[] {1, 9}, k -> x.lots(0, 11, k, 0), NONE);
        x.kitchen(18, 1, 1, 1, false);
        due.isFor("10 on bank 1", new int[] {1, 9}, k -> x.lots(0, 11, k, 0), NONE);
        x.call(18, 0, 0, NONE);
        due.is("9 counted of 10", x.lots(0, 11, 9, 0), 1);
    }

    @Says(at = "==== 7.", words = "the RIVER has the sign of that of all (below 0, 0, above 0); a fraction in lowest terms")
    static void lotsBySign(Due due) {
        RiverWage x = new RiverWage();
        Edge.many(x, 0, 0, 2, 5, 5);
        Edge.many(x, 1, 2, 2, 5, 5);
        lots(due, "all 0", x, 1, 1, 1, 1);
        x.call(0, 11, 6, 0);
        lots(due, "above 0", x, 1, 2, 1, 1);
        x.call(0, 11, 4, 0);
        lots(due, "below 0", x, 1, 2, 1, 1);
        x.call(1, 11, 6, 0);
        lots(due, "0 of all, never by one", x, 0, 1, 1, 1);
        x.call(2, 11, 6, 0);
        // -1 and 1 against 1 and 0: of all below 0; -1 is below both, 1 as much as 1
        lots(due, "0 by one isn't below", x, 1, 2, 1, 1);
        RiverWage y = new RiverWage();
        Edge.many(y, 0, 0, 3, 5, 6);
        Edge.many(y, 1, 3, 1, 5, 7);
        // the sum on BANK 0 is greater, but its MEAN is less
        due.isFraction("3 against 1", what -> y.lots(0, 11, 1, what), 0, 1, 1);
        y.call(0, 11, 9, 0);
        // 4, 1, 1 against 2: of all 0, by one never
        due.isFraction("0 of 3 against 1", what -> y.lots(0, 11, 1, what), 0, 0, 1);
        y.call(0, 11, 9, 1);
        due.isFraction("above 0 of 3 against 1", what -> y.lots(0, 11, 1, what), 0, 1, 3);
    }

    private static void lots(Due due, String name, RiverWage x, long... wants) {
        due.isFraction(name + ", 1 of each", what -> x.lots(0, 11, 1, what), 0, wants[0], wants[1]);
        due.isFraction(name + ", 2 of each", what -> x.lots(0, 11, 2, what), 0, wants[2], wants[3]);
    }

    @Says(at = "==== 7.", words = "NEEDED for p of 100 (1 to 100): the least k for which that is p of 100 or more")
    static void neededForP(Due due) {
        RiverWage x = new RiverWage();
        Edge.many(x, 0, 0, 4, 5, 5);
        Edge.many(x, 1, 4, 4, 5, 5);
        x.call(0, 11, 6, 0);
        int[] ps = {1, 24, 25, 26, 49, 50, 51, 74, 75, 76, 99, 100};
        int[] ks = {1, 1, 1, 2, 2, 2, 3, 3, 3, 4, 4, 4};
        for (int i = 0; i < ps.length; i++) {
            due.is("needed for " + ps[i], x.needed(0, 11, ps[i]), ks[i]);
        }
        due.isFor("p", Edge.beyond(1, 100), p -> x.needed(0, 11, p), NONE);
        x.call(0, 11, 5, 0);
        due.is("all 0: one will do for 100", x.needed(0, 11, 100), 1);
    }

    @Says(at = "==== 8.", words = "of the KITCHENS told that are not SILENT and that SHEETS tell")
    static void slipsOfThoseToldByBoth(Due due) {
        RiverWage x = Edge.twoKitchens();
        x.tenths(10);
        slips(due, "no sheets", x, 0, 0, 0);
        x.sheet(0, 0, 3, 0);
        slips(due, "as told", x, 1, 0, 0);
        x.sheet(0, 0, 2, 1);
        slips(due, "the same hands", x, 1, 0, 0);
        x.sheet(1, 0, 99, 99);
        slips(due, "another", x, 2, 1, 1950);
        x.call(1, 0, NONE, NONE);
        slips(due, "against a shut one", x, 2, 1, 1980);
        x.sheet(1, 0, 0, 0);
        slips(due, "no hands and shut are alike", x, 2, 0, 0);
        x.call(0, 0, 99, 99);
        slips(due, "more by calls", x, 2, 1, 1980 - 30);
        x.call(0, 0, 0, NONE);
        x.call(1, 0, 0, NONE);
        slips(due, "silent", x, 0, 0, 0);
    }

    private static void slips(Due due, String name, RiverWage x, int... wants) {
        for (int what = 0; what < 3; what++) {
            due.is(name + " " + what, x.slips(0, what), wants[what]);
        }
    }

    @Says(at = "==== 8.", words = "the CHANGE by CALLS or that by SHEETS, whichever: the least and the greatest RIVER")
    static void mixedWithSheetsInBothMonths(Due due) {
        RiverWage x = Edge.twoKitchens();
        mixed(due, "no sheets", x, -10, -10);
        x.sheet(0, 0, 0, 0);
        mixed(due, "in one month", x, -10, -10);
        x.sheet(0, 11, 1, 0);
        mixed(due, "the same change", x, -10, -10);
        x.sheet(0, 11, 99, 0);
        mixed(due, "a greater one on bank 0", x, -10, 970);
        x.sheet(1, 0, 99, 0);
        x.sheet(1, 11, 0, 0);
        mixed(due, "a lesser one on bank 1", x, -10, 990 + 990);
        x.sheet(1, 0, 0, 0);
        x.sheet(1, 11, 99, 0);
        mixed(due, "a greater one on bank 1", x, 10 - 990, 970);
        due.isFraction("backwards", what -> x.mixed(11, 0, what), 0, -970, 1);
    }

    private static void mixed(Due due, String name, RiverWage x, long least, long greatest) {
        due.isFraction(name + ", the least", what -> x.mixed(0, 11, what), 0, least, 1);
        due.isFraction(name + ", the greatest", what -> x.mixed(0, 11, what), 2, greatest, 1);
    }

    /** One KITCHEN on each BANK, told in each MONTH, with WAGES of 100. */
    private static RiverWage toldAlways() {
        RiverWage x = new RiverWage();
        for (int k = 0; k < 2; k++) {
            x.kitchen(k, k, 100, 1, false);
            for (int m = 0; m < 12; m++) {
                x.call(k, m, 1, 0);
            }
        }
        return x;
    }

    private static void where(Due due, String name, RiverWage x, int month, int weight) {
        due.is(name + ", month", x.where(0), month);
        due.is(name + ", weight", x.where(1), weight);
    }

    @Says(at = "==== 9.", words = "a MONTH m from 1 on in which the FLOOR of one BANK grows by more (from m - 1) than that of the other one")
    static void whereAFloorGrows(Due due) {
        RiverWage x = toldAlways();
        x.floor(0, 0, 500, 0);
        where(due, "month 0 is none", x, NONE, NONE);
        x.floor(0, 1, 501, 0);
        where(due, "month 1", x, 1, 1);
        x.floor(1, 1, 500, 0);
        where(due, "the other bank in month 1", x, 1, 1);
        x.floor(1, 0, 499, 0);
        where(due, "now the first bank again", x, 1, 1);
        x.floor(1, 1, 500, 0);
        where(due, "both by 1", x, NONE, NONE);
        x.floor(0, 11, 502, 0);
        where(due, "month 11", x, 11, 1);
        x.floor(1, 11, 501, 0);
        where(due, "both by 1 again", x, NONE, NONE);
        x.floor(1, 11, 503, 0);
        where(due, "by 3 against 1", x, 11, 1);
    }

    @Says(at = "==== 9.", words = "are COUNTED from m - 1 to m and have a WAGE below its FLOOR in m, by how many of the other BANK are COUNTED")
    static void weightsOfThoseCounted(Due due) {
        RiverWage x = toldAlways();
        x.floor(0, 5, 100, 0);
        where(due, "a wage of 100 isn't below 100", x, NONE, NONE);
        x.floor(0, 5, 101, 0);
        where(due, "but below 101", x, 5, 1);
        x.kitchen(1, 1, 999, 1, false);
        where(due, "the wage on the other bank doesn't matter", x, 5, 1);
        x.call(1, 4, 0, NONE);
        where(due, "the other one isn't counted", x, NONE, NONE);
        x.call(1, 4, NONE, NONE);
        where(due, "shut is counted", x, 5, 1);
        x.call(0, 5, 0, NONE);
        where(due, "the first isn't counted", x, NONE, NONE);
        for (int k = 0; k < 24; k++) {
            x.kitchen(k, k % 2, 100, 1, false);
            x.call(k, 4, 1, 0);
            x.call(k, 5, 1, 0);
        }
        where(due, "12 by 12", x, 5, 144);
    }

    @Says(at = "==== 9.", words = "The MONTH with the greatest WEIGHT above 0, of equal ones the first")
    static void ofEqualMonthsTheFirst(Due due) {
        RiverWage x = toldAlways();
        for (int m = 11; m >= 1; m--) {
            x.floor(m % 2, m, 200 + m, 0);
        }
        where(due, "the last one told is the first", x, 1, 1);
        RiverWage y = toldAlways();
        for (int m = 1; m < 12; m++) {
            y.floor(0, m, 200 + m, 0);
        }
        where(due, "11 alike", y, 1, 1);
        y.kitchen(2, 1, 1, 1, false);
        y.call(2, 10, 1, 0);
        y.call(2, 11, 1, 0);
        where(due, "the greatest is the last", y, 11, 2);
        y.call(2, 9, 1, 0);
        where(due, "two alike", y, 10, 2);
        y.kitchen(0, 0, 999, 1, false);
        where(due, "no weight above 0", y, NONE, NONE);
    }

    // ---- promises 29 to 42 ----

    @Says(at = "Promise 29", words = "The TAPE is read as the text of a WRITER: as of law()")
    static void writerAsOfLaw(Due due) {
        RiverWage x = Edge.twoKitchens();
        due.is("a text", Texts.writer(x, 3, "take when bank ;"), 0);
        due.is("its fault", Texts.writer(x, 3, "take when 1 ; from"), Texts.fault(1, 18));
        due.is("it stays as it was", x.takes(3, 0), 0);
        due.is("the tape is empty", x.count(6), 0);
        for (int writer : BEYOND_TEXTS) {
            Texts.feed(x, "take when 0 ;");
            due.is("no such number", x.writer(writer), -1);
            due.is("the tape is empty", x.count(6), 0);
        }
        due.is("the others stay", x.takes(0, 0) + x.takes(1, 0) + x.takes(2, 0), 3);
        Texts.law(x, 3, "hire 1 ;");
        due.is("a law is no writer", x.takes(3, 1), 1);
        due.is("an empty text", x.writer(3), 0);
        due.is("takes all", x.takes(3, 0), 1);
    }

    @Says(at = "Promise 30", words = "NONE: others")
    static void takesRefuses(Due due) {
        RiverWage x = Edge.twoKitchens();
        due.isFor("writer", BEYOND_TEXTS, writer -> x.takes(writer, 0), NONE);
        due.isFor("kitchen", Edge.beyond(0, 23), k -> x.takes(0, k), NONE);
    }

    @Says(at = "Promise 30", words = "not told")
    static void takesOfOneNotTold(Due due) {
        RiverWage x = Edge.twoKitchens();
        due.isFor("not told", new int[] {2, 12, 23}, k -> x.takes(0, k), NONE);
        Texts.writer(x, 0, "take when 0 ;");
        due.isFor("not told, with a text", new int[] {2, 12, 23}, k -> x.takes(0, k), NONE);
        x.kitchen(23, 0, 1, 1, false);
        due.is("told", x.takes(0, 23), 0);
        leaves(due, x, "number");
        Texts.writer(x, 0, "take when 0 - number ;");
        due.is("below 0 is so", x.takes(0, 23), 1);
    }

    @Says(at = "Promise 31", words = "NoSuchElementException: others")
    static void writesRefuses(Due due) {
        RiverWage x = Edge.twoKitchens();
        due.throwsFor("writer", BEYOND_TEXTS, writer -> x.writes(writer, 0));
        due.throwsFor("what", BEYOND_FRACTION, what -> x.writes(0, what));
        due.isFor("writers 0 to 3", new int[] {0, 1, 2, 3}, writer -> x.writes(writer, 0), -10);
    }

    @Says(at = "Promise 31", words = "others, none.")
    static void aWriterWithoutARiver(Due due) {
        RiverWage x = Edge.twoKitchens();
        for (String text : new String[] {"to 0 ;", "take when bank ;", "take when 1 - bank ;", "take when 0 ;", "from 5 ;"}) {
            Texts.writer(x, 0, text);
            due.throwsFor("river by " + text, new int[] {0, 1}, what -> x.writes(0, what));
        }
        x.writer(0);
        due.is("it is there again", x.writes(0, 0), -10);
    }

    @Says(at = "Promise 32", words = "NoSuchElementException: others")
    static void forksRefuse(Due due) {
        RiverWage x = Edge.twoKitchens();
        due.throwsFor("what", Edge.beyond(0, 6), x::forks);
        due.is("the last one", x.forks(6), 1);
    }

    @Says(at = "Promise 32", words = "none (3 to 6)")
    static void forksOfNone(Due due) {
        RiverWage x = Edge.twoKitchens();
        x.call(0, 0, 0, NONE);
        due.isFor("how many", new int[] {0, 1, 2}, x::forks, 0);
        due.throwsFor("the least and the greatest", new int[] {3, 4, 5, 6}, x::forks);
        Texts.writer(x, 3, "to 10 ; from 11 ;");
        x.call(0, 10, 1, 0);
        x.call(1, 10, 1, 0);
        long[] wants = {11, 0, 11, 10, 1, 10, 1};
        for (int what = 0; what < 7; what++) {
            due.is("those of one writer " + what, x.forks(what), wants[what]);
        }
    }

    @Says(at = "Promise 33", words = "false: others")
    static void bookRefuses(Due due) {
        RiverWage x = Edge.twoKitchens();
        x.book(0, 0, 3, 5);
        due.isFor("kitchen", Edge.beyond(0, 23), k -> x.book(k, 0, 1, 1) ? 1 : 0, 0);
        due.isFor("month", BEYOND_MONTHS, m -> x.book(0, m, 1, 1) ? 1 : 0, 0);
        due.isFor("hours", Edge.beyond(0, 999), hours -> x.book(0, 0, hours, 1) ? 1 : 0, 0);
        due.isFor("takings", Edge.beyond(0, 99999), takings -> x.book(0, 0, 1, takings) ? 1 : 0, 0);
        due.is("paid as before", x.booked(0, 0, 1), 30 * 3 * 400);
        due.is("rest as before", x.booked(0, 0, 2), 50 - 30 * 3 * 400);
    }

    @Says(at = "Promise 33", words = "no such KITCHEN told")
    static void noBookOfAKitchenNotTold(Due due) {
        RiverWage x = Edge.twoKitchens();
        due.isFor("not told", new int[] {2, 12, 23}, k -> x.book(k, 0, 1, 1) ? 1 : 0, 0);
        x.kitchen(23, 0, 7, 1, false);
        x.call(23, 0, 1, 0);
        due.is("nothing is kept for it", x.booked(23, 0, 2), 0);
        due.is("then it is taken", x.book(23, 0, 1, 1), true);
        due.is("paid", x.booked(23, 0, 1), 70);
    }

    @Says(at = "Promise 34", words = "NoSuchElementException: others")
    static void bookedRefuses(Due due) {
        RiverWage x = Edge.twoKitchens();
        due.throwsFor("kitchen", Edge.beyond(0, 23), k -> x.booked(k, 0, 0));
        due.throwsFor("month", BEYOND_MONTHS, m -> x.booked(0, m, 0));
        due.throwsFor("what", Edge.beyond(0, 2), what -> x.booked(0, 0, what));
    }

    @Says(at = "Promise 34", words = "not told")
    static void bookedOfOneNotTold(Due due) {
        RiverWage x = Edge.twoKitchens();
        for (int what = 0; what < 3; what++) {
            int w = what;
            due.throwsFor("not told", new int[] {2, 12, 23}, k -> x.booked(k, 0, w));
        }
    }

    @Says(at = "Promise 34", words = "SILENT (1, 2)")
    static void bookedOfASilentOne(Due due) {
        RiverWage x = Edge.twoKitchens();
        x.book(0, 5, 3, 5);
        due.is("its rate is there", x.booked(0, 5, 0), 400);
        due.throwsFor("paid and rest", new int[] {1, 2}, what -> x.booked(0, 5, what));
        x.call(0, 5, NONE, NONE);
        due.is("a shut one pays nothing", x.booked(0, 5, 1), 0);
        due.is("its rest", x.booked(0, 5, 2), 50);
    }

    @Says(at = "Promise 35", words = "NoSuchElementException: others")
    static void closesRefuses(Due due) {
        RiverWage x = Edge.twoKitchens();
        due.throwsFor("bank", Edge.beyond(0, 1), bank -> x.closes(bank, 0, 11, 0));
        due.throwsFor("b", BEYOND_MONTHS, b -> x.closes(0, b, 11, 0));
        due.throwsFor("a", BEYOND_MONTHS, a -> x.closes(0, 0, a, 0));
        due.throwsFor("what", Edge.beyond(0, 5), what -> x.closes(0, 0, 11, what));
        due.isFor("a bank without counted ones is none of them", new int[] {0, 1, 2, 3, 4, 5}, what -> x.closes(0, 0, 5, what), 0);
    }

    @Says(at = "Promise 36", words = "NONE: others")
    static void lotsRefuse(Due due) {
        RiverWage x = Edge.twoKitchens();
        due.is("they are there", x.lots(0, 11, 1, 0), 1);
        due.isFor("b", BEYOND_MONTHS, b -> x.lots(b, 11, 1, 0), NONE);
        due.isFor("a", BEYOND_MONTHS, a -> x.lots(0, a, 1, 0), NONE);
        due.isFor("k", Edge.beyond(1, 9), k -> x.lots(0, 11, k, 0), NONE);
        due.isFor("what", BEYOND_FRACTION, what -> x.lots(0, 11, 1, what), NONE);
    }

    @Says(at = "Promise 36", words = "no RIVER")
    static void noLotsWithoutARiver(Due due) {
        RiverWage x = Edge.twoKitchens();
        x.call(0, 0, 0, NONE);
        due.isFor("none counted on bank 0", new int[] {0, 1}, what -> x.lots(0, 11, 1, what), NONE);
        x.call(0, 0, 0, 0);
        x.call(1, 0, 0, NONE);
        due.isFor("none counted on bank 1", new int[] {0, 1}, what -> x.lots(0, 11, 1, what), NONE);
    }

    @Says(at = "Promise 36", words = "more than 9 on a BANK")
    static void noLotsOf10(Due due) {
        RiverWage x = new RiverWage();
        Edge.many(x, 0, 0, 9, 1, 1);
        Edge.many(x, 1, 9, 1, 1, 1);
        due.is("9 and 1", x.lots(0, 11, 1, 0), 1);
        Edge.many(x, 0, 10, 1, 1, 1);
        due.isFor("10 and 1", new int[] {0, 1}, what -> x.lots(0, 11, 1, what), NONE);
        Edge.many(x, 1, 0, 9, 1, 1);
        due.isFor("1 and 10", new int[] {0, 1}, what -> x.lots(0, 11, 1, what), NONE);
        x.call(0, 0, 0, NONE);
        due.is("1 and 9", x.lots(0, 11, 1, 0), 1);
    }

    @Says(at = "Promise 36", words = "fewer than k on one")
    static void lotsOfTooFew(Due due) {
        RiverWage x = new RiverWage();
        Edge.many(x, 0, 0, 3, 1, 1);
        Edge.many(x, 1, 3, 2, 1, 1);
        due.is("2 of 3 and of 2", x.lots(0, 11, 2, 0), 1);
        due.isFor("3 and more", new int[] {3, 4, 9}, k -> x.lots(0, 11, k, 0), NONE);
        x.kitchen(2, 1, 1, 1, false);
        due.isFor("the other way round", new int[] {3, 4, 9}, k -> x.lots(0, 11, k, 0), NONE);
        x.call(0, 0, 0, NONE);
        due.is("1 counted", x.lots(0, 11, 2, 0), NONE);
    }

    @Says(at = "Promise 37", words = "NONE: others")
    static void neededRefuses(Due due) {
        RiverWage x = Edge.twoKitchens();
        due.is("it is there", x.needed(0, 11, 100), 1);
        due.isFor("b", BEYOND_MONTHS, b -> x.needed(b, 11, 50), NONE);
        due.isFor("a", BEYOND_MONTHS, a -> x.needed(0, a, 50), NONE);
        due.isFor("p", Edge.beyond(1, 100), p -> x.needed(0, 11, p), NONE);
    }

    @Says(at = "Promise 37", words = "no RIVER")
    static void neededWithoutARiver(Due due) {
        RiverWage x = Edge.twoKitchens();
        due.is("silent months", x.needed(0, 5, 1), NONE);
        x.call(0, 0, 0, NONE);
        due.is("none counted on bank 0", x.needed(0, 11, 1), NONE);
        x.call(0, 0, 0, 0);
        x.call(1, 0, 0, NONE);
        due.is("none counted on bank 1", x.needed(0, 11, 1), NONE);
    }

    @Says(at = "Promise 37", words = "more than 9 on a BANK")
    static void neededOf10(Due due) {
        RiverWage x = new RiverWage();
        Edge.many(x, 0, 0, 9, 1, 2);
        Edge.many(x, 1, 9, 9, 1, 1);
        due.is("9 and 9", x.needed(0, 11, 100), 1);
        Edge.many(x, 0, 18, 1, 1, 2);
        due.is("10 and 9", x.needed(0, 11, 1), NONE);
        x.kitchen(18, 1, 1, 1, false);
        due.is("9 and 10", x.needed(0, 11, 1), NONE);
        x.call(18, 11, 0, NONE);
        due.is("9 and 9 again", x.needed(0, 11, 1), 1);
    }

    @Says(at = "Promise 37", words = "no k (up to the fewer of both)")
    static void noKIsEnough(Due due) {
        RiverWage x = new RiverWage();
        Edge.many(x, 0, 0, 3, 5, 5);
        Edge.many(x, 1, 3, 1, 5, 5);
        x.call(0, 11, 6, 0);
        due.is("1 of 3 has the sign", x.needed(0, 11, 33), 1);
        due.is("more can't be", x.needed(0, 11, 34), NONE);
        Edge.many(x, 1, 4, 1, 5, 5);
        due.is("2 of 3 with two of both", x.needed(0, 11, 66), 2);
        due.is("more can't be", x.needed(0, 11, 67), NONE);
        Edge.many(x, 1, 5, 1, 5, 5);
        due.is("all with three of both", x.needed(0, 11, 67), 3);
        due.is("100 of 100", x.needed(0, 11, 100), 3);
    }

    @Says(at = "Promise 38", words = "2: the greatest difference (0 without)")
    static void noSlipHasNoDifference(Due due) {
        RiverWage x = Edge.twoKitchens();
        slips(due, "no sheets", x, 0, 0, 0);
        x.sheet(0, 0, 4, 0);
        slips(due, "one", x, 1, 1, 10);
        x.sheet(1, 0, 1, 0);
        slips(due, "two, the greater one below", x, 2, 2, 20);
    }

    @Says(at = "Promise 38", words = "NONE: others")
    static void slipsRefuse(Due due) {
        RiverWage x = Edge.twoKitchens();
        due.isFor("month", BEYOND_MONTHS, m -> x.slips(m, 0), NONE);
        due.isFor("what", Edge.beyond(0, 2), what -> x.slips(0, what), NONE);
        due.isFor("months 0 and 11", new int[] {0, 11}, m -> x.slips(m, 0), 0);
    }

    @Says(at = "Promise 39", words = "NoSuchElementException: others")
    static void mixedRefuses(Due due) {
        RiverWage x = Edge.twoKitchens();
        due.throwsFor("b", BEYOND_MONTHS, b -> x.mixed(b, 11, 0));
        due.throwsFor("a", BEYOND_MONTHS, a -> x.mixed(0, a, 0));
        due.throwsFor("what", Edge.beyond(0, 3), what -> x.mixed(0, 11, what));
    }

    @Says(at = "Promise 39", words = "others, none.")
    static void mixedWithoutARiver(Due due) {
        RiverWage x = Edge.twoKitchens();
        for (int k = 0; k < 2; k++) {
            x.sheet(k, 0, 1, 0);
            x.sheet(k, 11, 1, 0);
        }
        x.call(0, 0, 0, NONE);
        due.throwsFor("sheets don't make it counted on bank 0", new int[] {0, 1, 2, 3}, what -> x.mixed(0, 11, what));
        x.call(0, 0, 0, 0);
        x.call(1, 11, 0, NONE);
        due.throwsFor("nor on bank 1", new int[] {0, 1, 2, 3}, what -> x.mixed(0, 11, what));
    }

    @Says(at = "Promise 40", words = "NONE: none")
    static void nowhere(Due due) {
        RiverWage x = toldAlways();
        where(due, "floors that never grow", x, NONE, NONE);
        x.kitchen(1, 0, 100, 1, false);
        x.floor(0, 5, 500, 0);
        where(due, "nobody on the other bank", x, NONE, NONE);
        x.kitchen(0, 1, 100, 1, false);
        x.kitchen(1, 1, 100, 1, false);
        where(due, "nobody on the bank itself", x, NONE, NONE);
        x.kitchen(0, 0, 100, 1, false);
        where(due, "both are there", x, 5, 1);
    }

    @Says(at = "Promise 40", words = "another what")
    static void whereRefuses(Due due) {
        RiverWage x = toldAlways();
        x.floor(0, 5, 500, 0);
        where(due, "it is there", x, 5, 1);
        due.isFor("what", BEYOND_FRACTION, x::where, NONE);
    }

    @Says(at = "Promise 41", words = "false: none such")
    static void noSuchMark(Due due) {
        RiverWage x = Edge.twoKitchens();
        due.isFor("lay", BEYOND_TEXTS, mark -> x.mark(mark, false) ? 1 : 0, 0);
        due.isFor("go back to", BEYOND_TEXTS, mark -> x.mark(mark, true) ? 1 : 0, 0);
        due.isFor("nothing was laid", new int[] {0, 1, 2, 3}, mark -> x.mark(mark, true) ? 1 : 0, 0);
        due.isFor("lay 0 to 3", new int[] {0, 1, 2, 3}, mark -> x.mark(mark, false) ? 1 : 0, 1);
        due.isFor("go back to 0 to 3", new int[] {0, 1, 2, 3}, mark -> x.mark(mark, true) ? 1 : 0, 1);
    }

    @Says(at = "Promise 41", words = "nothing is on it")
    static void nothingOnAMark(Due due) {
        RiverWage x = Edge.twoKitchens();
        due.is("back at first", x.mark(2, true), false);
        due.is("calls stay", x.count(1), 4);
        x.mark(1, false);
        due.is("back to another one", x.mark(2, true), false);
        x.mark(2, false);
        due.is("back to it", x.mark(2, true), true);
        due.is("once more", x.mark(2, true), true);
        RiverWage y = new RiverWage();
        due.is("a mark of nothing told", y.mark(0, false), true);
        y.kitchen(0, 0, 1, 1, false);
        y.call(0, 0, 1, 1);
        y.sheet(0, 0, 1, 1);
        due.is("has something on it", y.mark(0, true), true);
        due.is("the call is gone", y.count(1), 0);
        due.is("the sheet is gone", y.count(2), 0);
        due.is("the kitchen stays", y.count(0), 1);
    }

    @Says(at = "Promise 41", words = "fewer OTHER RIVERS than on it (back)")
    static void fewerOtherRiversThanOnAMark(Due due) {
        RiverWage x = Edge.twoKitchens();
        x.mark(0, false);
        x.other(1, 1, true);
        x.mark(1, false);
        x.call(0, 0, 9, 0);
        x.sheet(0, 0, 9, 0);
        due.is("as many", x.mark(1, true), true);
        x.mark(0, true);
        x.call(0, 0, 9, 0);
        x.sheet(0, 0, 9, 0);
        due.is("fewer", x.mark(1, true), false);
        due.is("calls stay", x.hands(0, 0), 90);
        due.is("sheets stay", x.count(2), 1);
        due.is("it may be laid again", x.mark(1, false), true);
        due.is("and gone back to", x.mark(1, true), true);
        x.other(1, 1, true);
        x.other(1, 1, true);
        due.is("more", x.mark(1, true), true);
        due.is("gone", x.count(3), 0);
    }

    @Says(at = "Promise 42", words = "NONE for another what")
    static void countRefuses(Due due) {
        RiverWage x = Edge.twoKitchens();
        due.isFor("what", Edge.beyond(0, 7), x::count, NONE);
        due.is("7", x.count(7), 2);
    }

    @Says(at = "Promise 42", words = "1: CALLS that tell hands or SHUT, 2: SHEETS told")
    static void callsAndSheetsWhenAllAreTold(Due due) {
        RiverWage x = new RiverWage();
        for (int k = 0; k < 24; k++) {
            x.kitchen(k, 0, 1, 1, k == 23);
            for (int m = 0; m < 12; m += 2) {
                x.call(k, m, k % 2 == 0 ? NONE : 1, k % 2 == 0 ? NONE : 1);
                x.sheet(k, m, 0, 0);
            }
        }
        due.is("calls", x.count(1), 144);
        due.is("sheets", x.count(2), 144);
        x.call(23, 10, 2, 2);
        x.call(22, 10, 2, 2);
        x.sheet(23, 10, 2, 2);
        due.is("told again they are as many", x.count(1), 144);
        due.is("sheets told again, too", x.count(2), 144);
        x.call(23, 10, 2, NONE);
        x.call(22, 11, 2, NONE);
        due.is("one is silent again", x.count(1), 143);
        due.is("kitchens", x.count(0), 24);
        due.is("chosen", x.count(7), 1);
    }
}
