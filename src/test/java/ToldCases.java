/** Boundary cases of the Terms and of promises 1 to 7: what is told. */
final class ToldCases {
    private static final int NONE = RiverWage.NONE;

    private ToldCases() {
    }

    // ---- the document's limits ----

    @Says(at = "What it is", words = "An object is used for at most 512 calls after it has been made")
    static void theLast512thCallIsStillRight(Due due) {
        RiverWage x = Edge.twoKitchens();
        int calls = 6;
        for (; calls < 511; calls++) {
            x.call(0, calls % 10 + 1, calls % 100, 0);
        }
        due.is("call 512", x.river(0, 11, NONE, 0), -10);
    }

    @Says(at = "Terms", words = "KITCHENS 0 to 23")
    static void kitchens0To23(Due due) {
        RiverWage x = new RiverWage();
        for (int k = 0; k < 24; k++) {
            due.is("kitchen " + k, x.kitchen(k, 0, 0, 0, false), true);
        }
        due.isFor("kitchen", Edge.beyond(0, 23), k -> x.kitchen(k, 0, 0, 0, false) ? 1 : 0, 0);
        due.is("all 24", x.count(0), 24);
    }

    @Says(at = "Terms", words = "a BANK (0, 1)")
    static void banks0And1(Due due) {
        RiverWage x = new RiverWage();
        due.is("bank 0", x.kitchen(0, 0, 0, 0, false), true);
        due.is("bank 1", x.kitchen(1, 1, 0, 0, false), true);
        due.isFor("bank", Edge.beyond(0, 1), bank -> x.kitchen(2, bank, 0, 0, false) ? 1 : 0, 0);
        due.is("on bank 0", x.bank(0, 0, 1, 1), 1);
        due.is("on bank 1", x.bank(1, 0, 1, 1), 1);
    }

    @Says(at = "Terms", words = "a WAGE (0 to 999)")
    static void wages0To999(Due due) {
        RiverWage x = new RiverWage();
        due.is("wage 999", x.kitchen(0, 0, 999, 0, false), true);
        due.is("its rate", x.booked(0, 0, 0), 999);
        due.isFor("wage", Edge.beyond(0, 999), wage -> x.kitchen(0, 0, wage, 0, false) ? 1 : 0, 0);
        due.is("the rate stays", x.booked(0, 0, 0), 999);
        due.is("wage 0", x.kitchen(0, 0, 0, 0, false), true);
        due.is("its rate", x.booked(0, 0, 0), 0);
    }

    @Says(at = "Terms", words = "a MOST (0 to 99: whole hands it may have had where it is SILENT)")
    static void most0To99(Due due) {
        RiverWage x = new RiverWage();
        due.is("most 99", x.kitchen(0, 0, 0, 99, false), true);
        due.is("most 0", x.kitchen(1, 1, 0, 0, false), true);
        due.isFor("most", Edge.beyond(0, 99), most -> x.kitchen(0, 0, 0, most, false) ? 1 : 0, 0);
        due.isFor("most", Edge.beyond(0, 99), most -> x.kitchen(1, 1, 0, most, false) ? 1 : 0, 0);
        due.isFraction("the least", what -> x.bounds(0, 11, what), 0, -990, 1);
        due.isFraction("the greatest", what -> x.bounds(0, 11, what), 2, 990, 1);
    }

    @Says(at = "Terms", words = "MONTHS 0 to 11")
    static void months0To11(Due due) {
        RiverWage x = new RiverWage();
        x.kitchen(0, 0, 400, 5, false);
        for (int m = 0; m < 12; m++) {
            due.is("call in " + m, x.call(0, m, m, 0), true);
            due.is("sheet in " + m, x.sheet(0, m, m, 0), true);
            due.is("floor from " + m, x.floor(0, m, m, 0), true);
            due.is("book in " + m, x.book(0, m, m, m), true);
        }
        int[] beyond = Edge.beyond(0, 11);
        due.isFor("call", beyond, m -> x.call(0, m, 1, 1) ? 1 : 0, 0);
        due.isFor("sheet", beyond, m -> x.sheet(0, m, 1, 1) ? 1 : 0, 0);
        due.isFor("floor", beyond, m -> x.floor(0, m, 1, 1) ? 1 : 0, 0);
        due.isFor("book", beyond, m -> x.book(0, m, 1, 1) ? 1 : 0, 0);
        for (int m = 0; m < 12; m++) {
            due.is("hands in " + m, x.hands(0, m), 10 * m);
            due.is("slips in " + m, x.slips(m, 1), 0);
        }
        due.is("calls", x.count(1), 12);
        due.is("sheets", x.count(2), 12);
    }

    @Says(at = "Terms", words = "so many whole and half hands (0 to 99 each)")
    static void handsOfACall(Due due) {
        RiverWage x = new RiverWage();
        x.kitchen(0, 0, 400, 5, false);
        due.is("no hands", x.call(0, 0, 0, 0), true);
        due.is("0", x.hands(0, 0), 0);
        due.is("whole alone", x.call(0, 0, 99, 0), true);
        due.is("990", x.hands(0, 0), 990);
        due.is("half alone", x.call(0, 0, 0, 99), true);
        due.is("495", x.hands(0, 0), 495);
        due.isFor("whole", new int[] {-2, 100, Integer.MIN_VALUE, Integer.MAX_VALUE}, n -> x.call(0, 0, n, 1) ? 1 : 0, 0);
        due.isFor("half", new int[] {-2, 100, Integer.MIN_VALUE, Integer.MAX_VALUE}, n -> x.call(0, 0, 1, n) ? 1 : 0, 0);
        due.is("495 still", x.hands(0, 0), 495);
    }

    @Says(at = "Terms", words = "or is SHUT (none), or nothing: it is SILENT")
    static void shutIsToldAndSilentIsNot(Due due) {
        RiverWage x = new RiverWage();
        x.kitchen(0, 0, 400, 5, false);
        for (int m = 0; m < 12; m++) {
            due.is("nothing at first in " + m, x.hands(0, m), NONE);
        }
        x.call(0, 0, NONE, NONE);
        x.call(0, 1, 0, 0);
        due.is("shut", x.hands(0, 0), 0);
        due.is("no hands", x.hands(0, 1), 0);
        due.is("no hands isn't shut", x.bank(0, 0, 1, 3), 1);
        due.is("shut is counted", x.bank(0, 0, 1, 0), 1);
        due.is("silent isn't", x.bank(0, 0, 2, 0), 0);
    }

    @Says(at = "Terms", words = "SHEETS tell hands likewise, beside it (nothing at first)")
    static void noSheetsAtFirst(Due due) {
        RiverWage x = Edge.twoKitchens();
        due.is("no sheets", x.count(2), 0);
        due.is("no slips", x.slips(0, 0), 0);
        due.throwsNone("no river by sheets", () -> x.sheets(0, 11, false, 0));
        x.sheet(0, 0, 99, 99);
        due.is("the call stays", x.hands(0, 0), 30);
        due.is("no call more", x.count(1), 4);
        x.call(0, 0, 3, NONE);
        due.is("the sheet stays", x.count(2), 1);
    }

    @Says(at = "Terms", words = "A HALF hand counts as so many TENTHS (0 to 10; 5 at first), a whole one as 10")
    static void tenths0To10(Due due) {
        RiverWage x = new RiverWage();
        x.kitchen(0, 0, 400, 5, false);
        x.call(0, 0, 1, 1);
        due.is("5 at first", x.hands(0, 0), 15);
        due.is("count at first", x.count(5), 5);
        for (int n = 0; n <= 10; n++) {
            due.is("tenths " + n, x.tenths(n), true);
            due.is("by " + n, x.hands(0, 0), 10 + n);
        }
        due.isFor("tenths", Edge.beyond(0, 10), n -> x.tenths(n) ? 1 : 0, 0);
        due.is("10 still", x.hands(0, 0), 20);
    }

    @Says(at = "Terms", words = "HANDS are the sum; of a SHUT KITCHEN 0")
    static void handsOfAShutOne(Due due) {
        RiverWage x = Edge.twoKitchens();
        x.call(0, 0, 99, 99);
        x.call(0, 0, NONE, NONE);
        for (int n = 0; n <= 10; n += 5) {
            x.tenths(n);
            due.is("by " + n, x.hands(0, 0), 0);
        }
        due.is("its change", x.bank(0, 0, 11, 4), 40);
        due.is("its change back", x.bank(0, 11, 0, 4), -40);
    }

    @Says(at = "Terms", words = "the least WAGE there (0 to 999; 0 at first)")
    static void floors0To999(Due due) {
        RiverWage x = new RiverWage();
        x.kitchen(0, 0, 0, 0, false);
        due.is("0 at first", x.booked(0, 0, 0), 0);
        due.is("0 at first in 11", x.booked(0, 11, 0), 0);
        due.is("floor 999", x.floor(0, 0, 999, 0), true);
        due.is("its rate", x.booked(0, 0, 0), 999);
        due.isFor("floor", Edge.beyond(0, 999), floor -> x.floor(0, 0, floor, 0) ? 1 : 0, 0);
        due.is("999 still", x.booked(0, 0, 0), 999);
        due.is("floor 0", x.floor(0, 0, 0, 0), true);
        due.is("its rate", x.booked(0, 0, 0), 0);
    }

    @Says(at = "Terms", words = "its TRADE is -99 to 99 (0 at first)")
    static void tradesMinus99To99(Due due) {
        RiverWage x = new RiverWage();
        x.kitchen(0, 0, 0, 0, false);
        Texts.law(x, 0, "hire trade + 7 ;");
        due.is("0 at first", x.world(0, 0, 0, 1), 70);
        due.is("trade 99", x.floor(0, 0, 0, 99), true);
        due.isFor("trade", Edge.beyond(-99, 99), trade -> x.floor(0, 0, 0, trade) ? 1 : 0, 0);
        Texts.law(x, 0, "hire trade - 90 ;");
        due.is("it is 99", x.world(0, 0, 0, 1), 90);
        due.is("trade -99", x.floor(0, 0, 0, -99), true);
        due.isFor("trade", Edge.beyond(-99, 99), trade -> x.floor(0, 0, 0, trade) ? 1 : 0, 0);
        Texts.law(x, 0, "hire 0 - trade - 90 ;");
        due.is("it is -99", x.world(0, 0, 0, 1), 90);
    }

    // ---- promises 1 to 7 ----

    @Says(at = "Promise 1", words = "No KITCHEN.")
    static void aNewObjectIsEmpty(Due due) {
        RiverWage x = new RiverWage();
        int[] counts = {0, 0, 0, 0, 0, 5, 0, 0};
        due.isFor("count less what is at first", new int[] {0, 1, 2, 3, 4, 5, 6, 7}, what -> x.count(what) - counts[what], 0);
        due.is("call", x.call(0, 0, 1, 1), false);
        due.is("sheet", x.sheet(0, 0, 1, 1), false);
        due.is("book", x.book(0, 0, 1, 1), false);
        due.is("hands", x.hands(0, 0), NONE);
        due.isFor("bank", new int[] {0, 1, 2, 3, 4}, what -> x.bank(1, 0, 11, what), 0);
        due.isFor("closes", new int[] {0, 1, 2, 3, 4, 5}, what -> x.closes(1, 0, 11, what), 0);
        due.isFor("slips", new int[] {0, 1, 2}, what -> x.slips(0, what), 0);
        due.is("swings", x.swings(0, 11), NONE);
        due.is("next", x.next(0, 11), NONE);
        due.is("odds", x.odds(0, 11, 0), NONE);
        due.is("lots", x.lots(0, 11, 1, 0), NONE);
        due.is("needed", x.needed(0, 11, 1), NONE);
        due.is("world", x.world(0, 0, 0, 0), NONE);
        due.is("fits", x.fits(0, 20), 0);
        due.is("best", x.best(20), 0);
        due.is("rivers", x.rivers(0, 1, 0, 11, 1), NONE);
        due.is("takes", x.takes(0, 0), NONE);
        due.is("drawer", x.drawer(1), NONE);
        due.is("where", x.where(0), NONE);
        due.is("alike", x.alike(11, 0), 0);
        due.is("mark gone back to", x.mark(0, true), false);
        due.throwsNone("river", () -> x.river(0, 11, NONE, 0));
        due.throwsNone("part", () -> x.part(0, 11, 0, 0));
        due.throwsNone("bounds", () -> x.bounds(0, 11, 0));
        due.throwsNone("sheets", () -> x.sheets(0, 11, false, 0));
        due.throwsNone("choosing", () -> x.choosing(0, 11, 1, 0));
        due.throwsNone("beside", () -> x.beside(0, 11, 0));
        due.throwsNone("apart", () -> x.apart(0, 11, 0, 0));
        due.throwsNone("others", () -> x.others(false, 0));
        due.throwsNone("writes", () -> x.writes(0, 0));
        due.throwsNone("booked", () -> x.booked(0, 0, 0));
        due.throwsNone("mixed", () -> x.mixed(0, 11, 0));
        due.isFor("forks", new int[] {0, 1, 2}, x::forks, 0);
        due.throwsFor("forks", new int[] {3, 4, 5, 6}, x::forks);
    }

    @Says(at = "Promise 2", words = "(in place of what was told of it; CALLS and SHEETS stay): true")
    static void aKitchenToldAgainWhenAllAreTold(Due due) {
        RiverWage x = new RiverWage();
        Edge.many(x, 0, 0, 12, 1, 2);
        Edge.many(x, 1, 12, 12, 1, 1);
        x.sheet(23, 0, 1, 1);
        due.is("told again", x.kitchen(23, 0, 999, 99, true), true);
        due.is("24 still", x.count(0), 24);
        due.is("chosen now", x.count(7), 1);
        due.is("calls stay", x.count(1), 48);
        due.is("sheets stay", x.count(2), 1);
        due.is("13 on bank 0", x.bank(0, 0, 11, 0), 13);
        due.is("11 on bank 1", x.bank(1, 0, 11, 0), 11);
        due.is("its wage", x.booked(23, 0, 0), 999);
        due.is("and back", x.kitchen(23, 1, 0, 0, false), true);
        due.is("chosen no more", x.count(7), 0);
        due.is("its wage", x.booked(23, 0, 0), 0);
        due.is("12 on bank 1", x.bank(1, 0, 11, 0), 12);
    }

    @Says(at = "Promise 2", words = "false: others")
    static void aWrongKitchenIsRefusedAndChangesNothing(Due due) {
        RiverWage x = Edge.twoKitchens();
        due.isFor("number", Edge.beyond(0, 23), k -> x.kitchen(k, 1, 1, 1, false) ? 1 : 0, 0);
        due.isFor("bank", Edge.beyond(0, 1), bank -> x.kitchen(0, bank, 1, 1, false) ? 1 : 0, 0);
        due.isFor("wage", Edge.beyond(0, 999), wage -> x.kitchen(0, 1, wage, 1, false) ? 1 : 0, 0);
        due.isFor("most", Edge.beyond(0, 99), most -> x.kitchen(0, 1, 1, most, false) ? 1 : 0, 0);
        due.is("kitchens", x.count(0), 2);
        due.is("chosen", x.count(7), 2);
        due.is("its bank", x.bank(0, 0, 11, 0), 1);
        due.is("its wage", x.booked(0, 0, 0), 400);
        x.call(0, 0, 3, NONE);
        due.is("its most", x.bounds(0, 11, 0), 40 - 50 - 20);
    }

    @Says(at = "Promise 3", words = "whole NONE: SHUT (half NONE, too)")
    static void shutWantsBothNone(Due due) {
        RiverWage x = Edge.twoKitchens();
        due.is("both", x.call(0, 0, NONE, NONE), true);
        due.is("shut", x.bank(0, 0, 11, 3), 1);
        due.is("still told", x.count(1), 4);
        x.call(0, 0, 3, 0);
        due.isFor("whole alone, half", new int[] {0, 1, 99, 100, -2}, half -> x.call(0, 0, NONE, half) ? 1 : 0, 0);
        due.is("not shut", x.bank(0, 0, 11, 3), 0);
        due.is("hands stay", x.hands(0, 0), 30);
    }

    @Says(at = "Promise 3", words = "half NONE alone: SILENT again: true")
    static void silentAgain(Due due) {
        RiverWage x = Edge.twoKitchens();
        due.is("whole 0", x.call(0, 0, 0, NONE), true);
        due.is("silent", x.hands(0, 0), NONE);
        due.is("no call", x.count(1), 3);
        due.is("whole 99", x.call(0, 11, 99, NONE), true);
        due.is("silent", x.hands(0, 11), NONE);
        due.is("silent already", x.call(0, 5, 1, NONE), true);
        due.is("2 calls", x.count(1), 2);
        x.call(1, 0, NONE, NONE);
        due.is("a shut one", x.call(1, 0, 1, NONE), true);
        due.is("silent, too", x.bank(1, 0, 11, 1), 1);
        due.is("not shut", x.bank(1, 0, 11, 3), 0);
    }

    @Says(at = "Promise 3", words = "false: others")
    static void aWrongCallIsRefusedAndChangesNothing(Due due) {
        RiverWage x = Edge.twoKitchens();
        due.isFor("kitchen", Edge.beyond(0, 23), k -> x.call(k, 0, 1, 1) ? 1 : 0, 0);
        due.isFor("month", Edge.beyond(0, 11), m -> x.call(0, m, 1, 1) ? 1 : 0, 0);
        due.isFor("month of a shut one", Edge.beyond(0, 11), m -> x.call(0, m, NONE, NONE) ? 1 : 0, 0);
        due.isFor("month of a silent one", Edge.beyond(0, 11), m -> x.call(0, m, 1, NONE) ? 1 : 0, 0);
        due.isFor("whole", new int[] {-2, NONE, 100}, whole -> x.call(0, 0, whole, 0) ? 1 : 0, 0);
        due.isFor("half", new int[] {-2, 100}, half -> x.call(0, 0, 0, half) ? 1 : 0, 0);
        due.isFor("both", new int[] {-2, 100}, both -> x.call(0, 0, both, both) ? 1 : 0, 0);
        due.is("calls", x.count(1), 4);
        due.is("hands", x.hands(0, 0), 30);
    }

    @Says(at = "Promise 3", words = "no such KITCHEN told")
    static void noCallOfAKitchenNotTold(Due due) {
        RiverWage x = Edge.twoKitchens();
        for (int k = 2; k < 24; k++) {
            due.is("hands of " + k, x.call(k, 0, 1, 1), false);
        }
        due.is("shut", x.call(23, 0, NONE, NONE), false);
        due.is("silent", x.call(23, 0, 1, NONE), false);
        x.kitchen(23, 0, 1, 1, false);
        due.is("nothing is kept for it", x.hands(23, 0), NONE);
        due.is("then it is taken", x.call(23, 0, 1, 1), true);
    }

    @Says(at = "Promise 4", words = "false: others")
    static void aWrongSheetIsRefusedAndChangesNothing(Due due) {
        RiverWage x = Edge.twoKitchens();
        due.is("least", x.sheet(0, 0, 0, 0), true);
        due.is("most", x.sheet(0, 11, 99, 99), true);
        due.is("two", x.count(2), 2);
        due.isFor("kitchen", Edge.beyond(0, 23), k -> x.sheet(k, 0, 1, 1) ? 1 : 0, 0);
        due.isFor("month", Edge.beyond(0, 11), m -> x.sheet(0, m, 1, 1) ? 1 : 0, 0);
        due.isFor("whole", Edge.beyond(0, 99), whole -> x.sheet(0, 0, whole, 1) ? 1 : 0, 0);
        due.isFor("half", Edge.beyond(0, 99), half -> x.sheet(0, 0, 1, half) ? 1 : 0, 0);
        due.is("a sheet can't tell that it is shut", x.sheet(0, 0, NONE, NONE), false);
        due.is("two still", x.count(2), 2);
        due.is("the least still", x.slips(0, 2), 30);
        due.is("the most still", x.slips(11, 2), 990 + 495 - 40);
    }

    @Says(at = "Promise 4", words = "no such KITCHEN told")
    static void noSheetOfAKitchenNotTold(Due due) {
        RiverWage x = Edge.twoKitchens();
        for (int k = 2; k < 24; k++) {
            due.is("sheet of " + k, x.sheet(k, 0, 1, 1), false);
        }
        due.is("none", x.count(2), 0);
        x.kitchen(23, 0, 1, 1, false);
        due.is("then it is taken", x.sheet(23, 0, 1, 1), true);
        due.is("one", x.count(2), 1);
    }

    @Says(at = "Promise 5", words = "false: others")
    static void wrongTenthsAreRefusedAndChangeNothing(Due due) {
        RiverWage x = new RiverWage();
        due.isFor("tenths", Edge.beyond(0, 10), n -> x.tenths(n) ? 1 : 0, 0);
        due.is("5 still", x.count(5), 5);
        due.is("10", x.tenths(10), true);
        due.isFor("tenths", Edge.beyond(0, 10), n -> x.tenths(n) ? 1 : 0, 0);
        due.is("10 still", x.count(5), 10);
        due.is("0", x.tenths(0), true);
        due.is("0 now", x.count(5), 0);
    }

    @Says(at = "Promise 6", words = "FLOOR and TRADE of a BANK from a MONTH on")
    static void aFloorFromTheFirstMonthAndFromTheLast(Due due) {
        RiverWage x = new RiverWage();
        x.kitchen(0, 0, 0, 0, false);
        x.kitchen(1, 1, 0, 0, false);
        Texts.law(x, 0, "hire trade ;");
        x.floor(0, 0, 300, 3);
        due.isFor("from 0 on", new int[] {0, 1, 5, 11}, m -> x.booked(0, m, 0), 300);
        due.isFor("trade from 0 on", new int[] {1, 5, 11}, m -> x.world(0, 0, 0, m), 30);
        x.floor(0, 11, 200, 2);
        due.isFor("before 11", new int[] {0, 1, 5, 10}, m -> x.booked(0, m, 0), 300);
        due.is("in 11", x.booked(0, 11, 0), 200);
        due.is("trade in 10", x.world(0, 0, 0, 10), 30);
        due.is("trade in 11", x.world(0, 0, 0, 11), 20);
        x.floor(0, 5, 100, 1);
        due.isFor("before 5", new int[] {0, 4}, m -> x.booked(0, m, 0), 300);
        due.isFor("from 5 on, in 11 too", new int[] {5, 10, 11}, m -> x.booked(0, m, 0), 100);
        due.isFor("not on the other bank", new int[] {0, 5, 11}, m -> x.booked(1, m, 0), 0);
    }

    @Says(at = "Promise 6", words = "false: others")
    static void aWrongFloorIsRefusedAndChangesNothing(Due due) {
        RiverWage x = new RiverWage();
        x.kitchen(0, 0, 0, 0, false);
        x.kitchen(1, 1, 0, 0, false);
        Texts.law(x, 0, "hire trade + 50 ;");
        due.isFor("bank", Edge.beyond(0, 1), bank -> x.floor(bank, 0, 7, 7) ? 1 : 0, 0);
        due.isFor("month", Edge.beyond(0, 11), m -> x.floor(0, m, 7, 7) ? 1 : 0, 0);
        due.isFor("floor", Edge.beyond(0, 999), floor -> x.floor(0, 0, floor, 7) ? 1 : 0, 0);
        due.isFor("trade", Edge.beyond(-99, 99), trade -> x.floor(0, 0, 7, trade) ? 1 : 0, 0);
        due.isFor("floors", new int[] {0, 1, 11}, m -> x.booked(0, m, 0) + x.booked(1, m, 0), 0);
        due.isFor("trades", new int[] {1, 11}, m -> x.world(0, 0, 0, m), 500);
    }

    @Says(at = "Promise 7", words = "NONE: SILENT")
    static void handsOfASilentOne(Due due) {
        RiverWage x = Edge.twoKitchens();
        for (int m = 1; m < 11; m++) {
            due.is("month " + m, x.hands(0, m), NONE);
        }
        x.sheet(0, 5, 1, 1);
        due.is("told by a sheet alone", x.hands(0, 5), NONE);
        x.call(0, 5, 0, 0);
        due.is("no hands", x.hands(0, 5), 0);
        x.call(0, 5, 0, NONE);
        due.is("silent again", x.hands(0, 5), NONE);
    }

    @Says(at = "Promise 7", words = "none such")
    static void handsOfNoSuchOne(Due due) {
        RiverWage x = Edge.twoKitchens();
        due.isFor("kitchen", Edge.beyond(0, 23), k -> x.hands(k, 0), NONE);
        due.isFor("not told", new int[] {2, 12, 23}, k -> x.hands(k, 0), NONE);
        due.isFor("month", Edge.beyond(0, 11), m -> x.hands(0, m), NONE);
    }
}
