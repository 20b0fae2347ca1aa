/** Boundary cases of ==== 2. and of promises 8 to 19: the RIVER and what may be said about it. */
final class RiverCases {
    private static final int NONE = RiverWage.NONE;
    private static final int[] BEYOND_MONTHS = Edge.beyond(0, 11);
    private static final int[] BEYOND_FRACTION = Edge.beyond(0, 1);
    private static final int[] BEYOND_EXTREMES = Edge.beyond(0, 3);

    private RiverCases() {
    }

    // ---- ==== 2. ----

    @Says(at = "==== 2.", words = "MONTHS b and a (not the same) are told")
    static void theSameMonthTwice(Due due) {
        RiverWage x = Edge.twoKitchens();
        x.kitchen(2, 0, 999, 5, true);
        Edge.hands(x, 2, 1, 1);
        x.floor(0, 0, 500, 0);
        for (int k = 0; k < 3; k++) {
            x.sheet(k, 0, 1, 0);
            x.sheet(k, 11, 2, 0);
        }
        int[] both = {0, 11};
        due.throwsFor("bank", both, m -> x.bank(0, m, m, 0));
        due.throwsFor("river", both, m -> x.river(m, m, NONE, 0));
        due.throwsFor("part", both, m -> x.part(m, m, 0, 0));
        due.throwsFor("bounds", both, m -> x.bounds(m, m, 0));
        due.throwsFor("sheets", both, m -> x.sheets(m, m, false, 0));
        due.throwsFor("choosing", both, m -> x.choosing(m, m, 1, 0));
        due.throwsFor("beside", both, m -> x.beside(m, m, 0));
        due.throwsFor("apart", both, m -> x.apart(m, m, 0, 0));
        due.throwsFor("closes", both, m -> x.closes(0, m, m, 0));
        due.throwsFor("mixed", both, m -> x.mixed(m, m, 0));
        due.isFor("swings", both, m -> x.swings(m, m), NONE);
        due.isFor("next", new int[] {0, 5, 11}, m -> x.next(m, m), NONE);
        due.isFor("odds", both, m -> x.odds(m, m, 0), NONE);
        due.isFor("rivers", both, m -> x.rivers(0, 1, m, m, 1), NONE);
        due.isFor("lots", both, m -> x.lots(m, m, 1, 0), NONE);
        due.isFor("needed", both, m -> x.needed(m, m, 1), NONE);
        due.is("but not two others", x.bank(0, 0, 11, 0), 2);
        due.is("nor backwards", x.bank(0, 11, 0, 0), 2);
    }

    @Says(at = "==== 2.", words = "A KITCHEN is COUNTED if it is not SILENT in either")
    static void countedInBothOnly(Due due) {
        RiverWage x = Edge.twoKitchens();
        x.call(0, 0, 0, NONE);
        counted(due, "silent in b", x, 0);
        x.call(0, 11, 0, NONE);
        counted(due, "silent in both", x, 0);
        x.call(0, 0, NONE, NONE);
        counted(due, "silent in a", x, 0);
        x.call(0, 11, NONE, NONE);
        counted(due, "shut in both", x, 1);
    }

    private static void counted(Due due, String name, RiverWage x, int want) {
        due.is(name + ", counted", x.bank(0, 0, 11, 0), want);
        due.is(name + ", silent in either", x.bank(0, 0, 11, 1), 1 - want);
        due.is(name + ", its change", x.bank(0, 0, 11, 4), 0);
    }

    @Says(at = "==== 2.", words = "its CHANGE is its HANDS in a less those in b")
    static void theGreatestChanges(Due due) {
        RiverWage x = new RiverWage();
        x.tenths(10);
        Edge.mostGrowth(x, 0, 0, 23);
        x.kitchen(23, 1, 0, 0, false);
        x.call(23, 0, 99, 99);
        x.call(23, 11, NONE, NONE);
        due.is("of 23", x.bank(0, 0, 11, 4), 23 * 1980);
        due.is("of one", x.bank(1, 0, 11, 4), -1980);
        due.isFraction("the greatest river", what -> x.river(0, 11, NONE, what), 0, 3960, 1);
        due.isFraction("the least river", what -> x.river(11, 0, NONE, what), 0, -3960, 1);
    }

    @Says(at = "==== 2.", words = "none if there are none on one of them")
    static void noRiverWithoutBothBanks(Due due) {
        RiverWage x = Edge.twoKitchens();
        due.isFraction("one on each", what -> x.river(0, 11, NONE, what), 0, -10, 1);
        x.call(1, 0, 0, NONE);
        due.throwsNone("none counted on bank 1", () -> x.river(0, 11, NONE, 0));
        x.call(1, 0, 0, 0);
        x.call(0, 11, 0, NONE);
        due.throwsNone("none counted on bank 0", () -> x.river(0, 11, NONE, 0));
        x.call(0, 11, 4, 0);
        x.kitchen(1, 0, 1, 1, false);
        due.throwsNone("both on bank 0", () -> x.river(0, 11, NONE, 0));
        x.kitchen(0, 1, 1, 1, false);
        due.isFraction("changed places", what -> x.river(0, 11, NONE, what), 0, 40, 1);
        x.kitchen(1, 1, 1, 1, false);
        due.throwsNone("both on bank 1", () -> x.river(0, 11, NONE, 0));
    }

    @Says(at = "==== 2.", words = "PART of a KITCHEN: the RIVER less what it is WITHOUT it")
    static void partsWithTheGreatestDivisors(Due due) {
        RiverWage x = new RiverWage();
        x.tenths(1);
        Edge.many(x, 0, 0, 12, 0, 0);
        Edge.many(x, 1, 12, 12, 0, 0);
        x.call(0, 11, 0, 1);
        due.isFraction("1 by 12 less 0", what -> x.part(0, 11, 0, what), 0, 1, 12);
        due.isFraction("1 by 12 less 1 by 11", what -> x.part(0, 11, 1, what), 0, -1, 132);
        due.isFraction("no part", what -> x.part(0, 11, 12, what), 0, 0, 1);
        x.kitchen(12, 0, 1, 1, false);
        due.isFraction("1 by 13 less 1 by 12", what -> x.part(0, 11, 12, what), 0, -1, 156);
    }

    @Says(at = "==== 2.", words = "where one is SILENT its HANDS may be 0 to 10 * MOST (in each such MONTH for itself)")
    static void boundsOfSilentOnes(Due due) {
        RiverWage x = new RiverWage();
        x.tenths(0);
        x.kitchen(0, 0, 1, 99, false);
        x.kitchen(1, 1, 1, 99, false);
        bounds(due, "silent in all", x, -1980, 1980);
        x.kitchen(1, 1, 1, 0, false);
        bounds(due, "most 0 on bank 1", x, -990, 990);
        x.call(0, 0, 10, 99);
        bounds(due, "silent in a", x, -100, 890);
        x.call(0, 0, 0, NONE);
        x.call(0, 11, 10, 99);
        bounds(due, "silent in b", x, -890, 100);
        x.call(0, 0, 99, 99);
        bounds(due, "more told than most is fine", x, -890, -890);
        x.kitchen(0, 0, 1, 0, false);
        bounds(due, "told ones don't go by most", x, -890, -890);
        x.kitchen(0, 1, 1, 0, false);
        x.kitchen(1, 0, 1, 1, false);
        bounds(due, "the other way round", x, 880, 900);
    }

    private static void bounds(Due due, String what, RiverWage x, long least, long greatest) {
        due.isFraction(what + ", the least", part -> x.bounds(0, 11, part), 0, least, 1);
        due.isFraction(what + ", the greatest", part -> x.bounds(0, 11, part), 2, greatest, 1);
    }

    @Says(at = "==== 2.", words = "It TURNS if 0 lies between them (or is one of them)")
    static void turnsAt0(Due due) {
        RiverWage x = new RiverWage();
        x.tenths(1);
        x.kitchen(0, 0, 1, 2, false);
        x.kitchen(1, 1, 1, 2, false);
        x.call(0, 0, 3, 0);
        x.call(1, 11, 0, 0);
        // KITCHEN 0 changes by -30 to -10; KITCHEN 1 by what it had, turned round
        x.call(1, 0, 3, 0);
        due.is("0 is the least", x.swings(0, 11), 1);
        x.call(1, 0, 3, 1);
        due.is("the least is 1", x.swings(0, 11), 0);
        x.call(1, 0, 2, 9);
        due.is("the least is -1", x.swings(0, 11), 1);
        x.call(1, 0, 1, 0);
        due.is("0 is the greatest", x.swings(0, 11), 1);
        x.call(1, 0, 0, 9);
        due.is("the greatest is -1", x.swings(0, 11), 0);
        x.call(1, 0, 0, 11);
        due.is("the greatest is 1", x.swings(0, 11), 1);
        x.call(0, 11, 0, 0);
        x.call(1, 0, 3, 0);
        due.is("both are 0", x.swings(0, 11), 1);
    }

    @Says(at = "==== 2.", words = "by MOST in each MONTH in which it is SILENT, by how many are on its BANK")
    static void whomToRingByBothMonthsAndBank(Due due) {
        RiverWage x = new RiverWage();
        x.kitchen(0, 0, 1, 9, false);
        x.kitchen(1, 1, 1, 5, false);
        x.call(0, 0, 1, 0);
        due.is("twice 5 is more than 9", x.next(0, 11), 1);
        due.is("backwards, too", x.next(11, 0), 1);
        x.kitchen(2, 1, 1, 0, false);
        x.call(2, 0, 1, 0);
        x.call(2, 11, 1, 0);
        due.is("5 by two on the bank is less", x.next(0, 11), 0);
        x.kitchen(1, 1, 1, 10, false);
        due.is("20 by 2 is more than 9", x.next(0, 11), 1);
    }

    @Says(at = "==== 2.", words = "of equal ones the first")
    static void ofEqualOnesTheFirstIsRung(Due due) {
        RiverWage x = new RiverWage();
        x.kitchen(5, 1, 1, 3, false);
        x.kitchen(9, 0, 1, 6, false);
        x.kitchen(23, 0, 1, 6, false);
        due.is("3 by 1 is 6 by 2", x.next(0, 11), 5);
        x.kitchen(5, 0, 1, 6, false);
        x.kitchen(9, 1, 1, 4, false);
        x.kitchen(10, 0, 1, 12, false);
        due.is("6 by 3 of bank 0, 4 by 1, 12 by 3", x.next(0, 11), 9);
        x.kitchen(10, 0, 1, 13, false);
        due.is("13 by 3 is more", x.next(0, 11), 10);
        RiverWage y = new RiverWage();
        for (int k = 0; k < 24; k++) {
            y.kitchen(k, k % 2, 1, 99, false);
        }
        due.is("24 alike", y.next(0, 11), 0);
    }

    @Says(at = "==== 2.", words = "(a KITCHEN is COUNTED if they tell it in both MONTHS), of CHOSEN ones, or of all")
    static void countedBySheetsInBoth(Due due) {
        RiverWage x = Edge.twoKitchens();
        x.call(0, 0, 0, NONE);
        x.call(1, 11, 0, NONE);
        x.sheet(0, 0, 1, 0);
        x.sheet(1, 0, 1, 0);
        x.sheet(1, 11, 1, 0);
        due.throwsNone("one in one month only", () -> x.sheets(0, 11, false, 0));
        x.sheet(0, 11, 3, 1);
        due.isFraction("calls don't matter", what -> x.sheets(0, 11, false, what), 0, 25, 1);
        due.isFraction("both are chosen", what -> x.sheets(0, 11, true, what), 0, 25, 1);
        x.kitchen(0, 0, 1, 1, false);
        due.isFraction("of all", what -> x.sheets(0, 11, false, what), 0, 25, 1);
        due.throwsNone("none chosen on bank 0", () -> x.sheets(0, 11, true, 0));
    }

    @Says(at = "==== 2.", words = "CHOOSING k (1 to 12) on each BANK")
    static void choosing1And12(Due due) {
        RiverWage x = new RiverWage();
        Edge.many(x, 0, 0, 12, 0, 1);
        Edge.many(x, 1, 12, 12, 0, 0);
        x.call(0, 11, 0, 0);
        x.call(23, 11, 2, 0);
        choosing(due, x, 1, -20, 1, 10, 1);
        choosing(due, x, 12, 15, 2, 15, 2);
        due.throwsFor("k", Edge.beyond(1, 12), k -> x.choosing(0, 11, k, 0));
        x.kitchen(0, 1, 1, 1, false);
        choosing(due, x, 11, 90, 11, 10, 1);
        due.throwsNone("13 on one bank, 12 of them", () -> x.choosing(0, 11, 12, 0));
        x.kitchen(23, 0, 1, 1, false);
        choosing(due, x, 12, 65, 6, 65, 6);
    }

    @Says(at = "==== 2.", words = "the least and the greatest RIVER that any k COUNTED KITCHENS (by CALLS) of each BANK give")
    static void choosingFromAnyOrder(Due due) {
        RiverWage x = new RiverWage();
        int[] changes = {4, -3, 9, 0, 9, -7, 2, 2};
        for (int k = 0; k < 8; k++) {
            Edge.many(x, k < 5 ? 0 : 1, k, 1, 10, 10 + changes[k]);
        }
        // in order: -3, 0, 4, 9, 9 against -7, 2, 2
        choosing(due, x, 1, -50, 1, 160, 1);
        choosing(due, x, 2, -35, 1, 115, 1);
        choosing(due, x, 3, 40, 3, 250, 3);
    }

    private static void choosing(Due due, RiverWage x, int k, long... want) {
        due.isFraction("the least of " + k, what -> x.choosing(0, 11, k, what), 0, want[0], want[1]);
        due.isFraction("the greatest of " + k, what -> x.choosing(0, 11, k, what), 2, want[2], want[3]);
    }

    @Says(at = "==== 2.", words = "none if there are fewer")
    static void choosingFromTooFew(Due due) {
        RiverWage x = new RiverWage();
        Edge.many(x, 0, 0, 3, 0, 1);
        Edge.many(x, 1, 3, 2, 0, 0);
        due.isFraction("2 of 3 and of 2", what -> x.choosing(0, 11, 2, what), 0, 10, 1);
        due.throwsFor("3 of 3 and of 2", new int[] {0, 1, 2, 3}, what -> x.choosing(0, 11, 3, what));
        x.kitchen(2, 1, 1, 1, false);
        due.throwsNone("3 of 2 and of 3", () -> x.choosing(0, 11, 3, 0));
        x.call(3, 0, 0, NONE);
        x.call(2, 0, 0, NONE);
        due.throwsNone("2 of 2 and of one counted", () -> x.choosing(0, 11, 2, 0));
        x.call(4, 0, 0, NONE);
        due.throwsNone("1 of 2 and of none counted", () -> x.choosing(0, 11, 1, 0));
    }

    @Says(at = "==== 2.", words = "COUNTED KITCHENS (14 at most)")
    static void oddsOf14(Due due) {
        RiverWage x = new RiverWage();
        x.tenths(10);
        Edge.mostGrowth(x, 0, 0, 7);
        Edge.many(x, 1, 7, 7, 99, 0);
        due.isFraction("7 and 7", what -> x.odds(0, 11, what), 0, 1, 1716);
        for (int k = 1; k < 7; k++) {
            x.kitchen(k, 1, 1, 1, false);
            Edge.hands(x, k, 99, 0);
        }
        due.isFraction("1 and 13", what -> x.odds(0, 11, what), 0, 1, 14);
        for (int k = 0; k < 14; k++) {
            x.kitchen(k, k == 0 ? 1 : 0, 1, 1, false);
        }
        due.isFraction("13 and 1", what -> x.odds(0, 11, what), 0, 1, 14);
        x.kitchen(23, 0, 1, 1, false);
        due.isFraction("14 counted of 15", what -> x.odds(0, 11, what), 0, 1, 14);
        Edge.hands(x, 23, 1, 1);
        due.is("15", x.odds(0, 11, 0), NONE);
    }

    @Says(at = "==== 2.", words = "as far from 0 as this one or farther; a fraction in lowest terms")
    static void oddsOfEquals(Due due) {
        RiverWage x = Edge.twoKitchens();
        due.isFraction("both ways are as far", what -> x.odds(0, 11, what), 0, 1, 1);
        x.kitchen(2, 1, 1, 1, false);
        // CHANGES 10 against 20 and 20: RIVERS -10, 5, 5
        Edge.hands(x, 2, 3, 5);
        due.isFraction("only this one", what -> x.odds(0, 11, what), 0, 1, 3);
        x.kitchen(0, 1, 1, 1, false);
        x.kitchen(1, 0, 1, 1, false);
        due.isFraction("all are as far or farther", what -> x.odds(0, 11, what), 0, 1, 1);
        Edge.hands(x, 2, 3, 2);
        // 20 against 10 and -10: RIVERS 20, 5, -25
        due.isFraction("one is farther", what -> x.odds(0, 11, what), 0, 2, 3);
        Edge.hands(x, 0, 1, 1);
        Edge.hands(x, 1, 1, 1);
        Edge.hands(x, 2, 1, 1);
        due.isFraction("a river of 0: all ways", what -> x.odds(0, 11, what), 0, 1, 1);
    }

    @Says(at = "==== 2.", words = "BOUND are KITCHENS on BANK 0 whose WAGE is below the FLOOR of BANK 0 in a, FREE the others there")
    static void boundBelowTheFloorAlone(Due due) {
        RiverWage x = new RiverWage();
        Edge.many(x, 0, 0, 2, 1, 1);
        Edge.many(x, 1, 2, 1, 0, 99);
        x.kitchen(0, 0, 499, 1, false);
        x.kitchen(1, 0, 500, 1, false);
        x.call(0, 11, 2, 0);
        x.floor(1, 0, 999, 0);
        x.floor(0, 0, 999, 0);
        x.floor(0, 11, 500, 0);
        due.isFraction("499 is below 500, 500 isn't", what -> x.beside(0, 11, what), 0, 10, 1);
        due.throwsNone("in month 0 both are", () -> x.beside(11, 0, 0));
        x.floor(0, 11, 499, 0);
        due.throwsNone("none is below 499", () -> x.beside(0, 11, 0));
        x.floor(0, 11, 501, 0);
        due.throwsNone("both are below 501", () -> x.beside(0, 11, 0));
    }

    @Says(at = "==== 2.", words = "none if there are none of one sort")
    static void besideWithoutOneSort(Due due) {
        RiverWage x = new RiverWage();
        x.kitchen(0, 0, 0, 1, false);
        x.kitchen(1, 0, 999, 1, false);
        x.kitchen(2, 1, 0, 1, false);
        x.kitchen(3, 1, 999, 1, false);
        for (int k = 0; k < 4; k++) {
            Edge.hands(x, k, 1, 1);
        }
        due.throwsNone("floor 0 binds none", () -> x.beside(0, 11, 0));
        x.floor(0, 0, 1, 0);
        due.isFraction("floor 1 binds one", what -> x.beside(0, 11, what), 0, 0, 1);
        x.floor(0, 0, 999, 0);
        due.isFraction("no floor binds a wage of 999", what -> x.beside(0, 11, what), 0, 0, 1);
        x.call(1, 0, 0, NONE);
        due.throwsNone("the free one isn't counted", () -> x.beside(0, 11, 0));
        x.call(1, 0, 0, 0);
        x.call(0, 0, 0, NONE);
        due.throwsNone("the bound one isn't counted", () -> x.beside(0, 11, 0));
        x.kitchen(0, 1, 0, 1, false);
        x.call(0, 0, 0, 0);
        due.throwsNone("it is on bank 1", () -> x.beside(0, 11, 0));
    }

    @Says(at = "==== 2.", words = "ALIKE up to a MONTH (1 to 11)")
    static void alikeUpTo1And11(Due due) {
        RiverWage x = new RiverWage();
        x.kitchen(0, 0, 1, 1, false);
        x.kitchen(1, 1, 1, 1, false);
        for (int m = 0; m < 12; m++) {
            x.call(0, m, m * (m + 1) / 2, 0);
            x.call(1, m, 0, 0);
        }
        for (int m = 1; m < 12; m++) {
            due.is("how many up to " + m, x.alike(m, 0), m);
            due.is("the greatest up to " + m, x.alike(m, 1), 10 * m);
            due.is("below up to " + m, x.alike(m, 2), 1);
        }
        due.isFor("month", Edge.beyond(1, 11), m -> x.alike(m, 0), NONE);
        due.is("month 0", x.alike(0, 0), NONE);
        x.kitchen(0, 1, 1, 1, false);
        x.kitchen(1, 0, 1, 1, false);
        due.is("how far, below 0 too", x.alike(11, 1), 110);
        x.call(0, 10, 0, NONE);
        due.is("two are gone", x.alike(11, 0), 9);
        due.is("the greatest then", x.alike(11, 1), 90);
    }

    @Says(at = "==== 2.", words = "and the greatest of how far they lie from 0")
    static void theGreatestIsAFraction(Due due) {
        RiverWage x = new RiverWage();
        Edge.many(x, 0, 0, 3, 1, 1);
        Edge.many(x, 1, 3, 1, 1, 1);
        for (int k = 0; k < 4; k++) {
            x.call(k, 1, 1, 0);
            x.call(k, 2, 1, 0);
        }
        due.is("all are 0", x.alike(11, 1), 0);
        x.call(0, 1, 2, 0);
        // 10 by 3, then back by 10 by 3
        due.isFraction("up to 1", what -> x.alike(1, what), 1, 10, 3);
        due.isFraction("up to 2", what -> x.alike(2, what), 1, 10, 3);
        x.call(0, 2, 1, 1);
        due.isFraction("the first one is greater", what -> x.alike(2, what), 1, 10, 3);
        x.call(3, 2, 3, 0);
        due.isFraction("the second one is", what -> x.alike(2, what), 1, 65, 3);
    }

    @Says(at = "==== 2.", words = "If the BANKS went apart by d (-99 to 99) a MONTH anyway the RIVER is less by d * (a - b)")
    static void apartByMinus99To99(Due due) {
        RiverWage x = Edge.twoKitchens();
        x.call(0, 1, 4, 0);
        x.call(1, 1, 5, 0);
        due.isFraction("by 0", what -> x.apart(0, 11, 0, what), 0, -10, 1);
        due.isFraction("by 99", what -> x.apart(0, 11, 99, what), 0, -10 - 1089, 1);
        due.isFraction("by -99", what -> x.apart(0, 11, -99, what), 0, -10 + 1089, 1);
        due.isFraction("by 99, backwards", what -> x.apart(11, 0, 99, what), 0, 10 + 1089, 1);
        due.isFraction("by -99, backwards", what -> x.apart(11, 0, -99, what), 0, 10 - 1089, 1);
        due.isFraction("by 99 in a month", what -> x.apart(0, 1, 99, what), 0, -10 - 99, 1);
        due.throwsFor("d", Edge.beyond(-99, 99), d -> x.apart(0, 11, d, 0));
    }

    // ---- promises 8 to 19 ----

    @Says(at = "Promise 8", words = "2: SHUT in a and not in b, 3: SHUT in b and not in a")
    static void shutInOneMonthAlone(Due due) {
        RiverWage x = Edge.twoKitchens();
        shut(due, "open in both", x, 0, 0);
        x.call(0, 0, NONE, NONE);
        shut(due, "shut in b", x, 0, 1);
        x.call(0, 11, NONE, NONE);
        shut(due, "shut in both", x, 0, 0);
        x.call(0, 0, 0, 0);
        shut(due, "shut in a", x, 1, 0);
        x.call(0, 0, 0, NONE);
        shut(due, "silent in b, which is not shut", x, 1, 0);
        x.call(0, 11, 0, NONE);
        shut(due, "silent in both", x, 0, 0);
    }

    private static void shut(Due due, String what, RiverWage x, int inA, int inB) {
        due.is(what + ", in a", x.bank(0, 0, 11, 2), inA);
        due.is(what + ", in b", x.bank(0, 0, 11, 3), inB);
        due.is(what + ", backwards", x.bank(0, 11, 0, 2), inB);
        due.is(what + ", on the other bank", x.bank(1, 0, 11, 2) + x.bank(1, 0, 11, 3), 0);
    }

    @Says(at = "Promise 8", words = "NoSuchElementException: others")
    static void bankRefuses(Due due) {
        RiverWage x = Edge.twoKitchens();
        due.throwsFor("bank", Edge.beyond(0, 1), bank -> x.bank(bank, 0, 11, 0));
        due.throwsFor("b", BEYOND_MONTHS, b -> x.bank(0, b, 11, 0));
        due.throwsFor("a", BEYOND_MONTHS, a -> x.bank(0, 0, a, 0));
        due.throwsFor("what", Edge.beyond(0, 4), what -> x.bank(0, 0, 11, what));
        RiverWage y = new RiverWage();
        due.isFor("a bank without kitchens is none of them", new int[] {0, 1, 2, 3, 4}, what -> y.bank(0, 0, 11, what), 0);
    }

    @Says(at = "Promise 9", words = "NoSuchElementException: others")
    static void riverRefuses(Due due) {
        RiverWage x = Edge.twoKitchens();
        x.kitchen(2, 0, 1, 1, false);
        due.throwsFor("b", BEYOND_MONTHS, b -> x.river(b, 11, NONE, 0));
        due.throwsFor("a", BEYOND_MONTHS, a -> x.river(0, a, NONE, 0));
        due.throwsFor("what", BEYOND_FRACTION, what -> x.river(0, 11, NONE, what));
        due.throwsFor("without", new int[] {-2, 3, 23, 24, Integer.MIN_VALUE, Integer.MAX_VALUE},
            without -> x.river(0, 11, without, 0));
        due.isFraction("without NONE", what -> x.river(0, 11, NONE, what), 0, -10, 1);
        due.isFraction("without one that is told and not counted", what -> x.river(0, 11, 2, what), 0, -10, 1);
    }

    @Says(at = "Promise 9", words = "others, none.")
    static void noRiverWithoutTheLastOne(Due due) {
        RiverWage x = Edge.twoKitchens();
        due.throwsFor("without the only one of bank 0", new int[] {0, 1}, what -> x.river(0, 11, 0, what));
        due.throwsFor("without the only one of bank 1", new int[] {0, 1}, what -> x.river(0, 11, 1, what));
        Edge.many(x, 0, 2, 1, 1, 2);
        due.isFraction("without one of two", what -> x.river(0, 11, 0, what), 0, -10, 1);
        due.throwsNone("in silent months", () -> x.river(0, 5, NONE, 0));
    }

    @Says(at = "Promise 9", words = "0: above (it may be below 0), 1: below, in lowest terms")
    static void aRiverInLowestTerms(Due due) {
        RiverWage x = new RiverWage();
        Edge.many(x, 0, 0, 6, 0, 0);
        Edge.many(x, 1, 6, 4, 0, 0);
        due.isFraction("0 is 0 by 1", what -> x.river(0, 11, NONE, what), 0, 0, 1);
        x.call(0, 11, 0, 1);
        due.isFraction("5 by 6", what -> x.river(0, 11, NONE, what), 0, 5, 6);
        x.call(6, 11, 1, 0);
        due.isFraction("5 by 6 less 10 by 4", what -> x.river(0, 11, NONE, what), 0, -5, 3);
        x.call(0, 11, 1, 1);
        due.isFraction("15 by 6 less 10 by 4", what -> x.river(0, 11, NONE, what), 0, 0, 1);
    }

    @Says(at = "Promise 10", words = "NoSuchElementException: others")
    static void partRefuses(Due due) {
        RiverWage x = Edge.twoKitchens();
        Edge.many(x, 0, 2, 1, 1, 1);
        due.isFraction("a part", what -> x.part(0, 11, 2, what), 0, -5, 1);
        due.throwsFor("b", BEYOND_MONTHS, b -> x.part(b, 11, 2, 0));
        due.throwsFor("a", BEYOND_MONTHS, a -> x.part(0, a, 2, 0));
        due.throwsFor("kitchen", Edge.beyond(0, 23), k -> x.part(0, 11, k, 0));
        due.throwsFor("not told", new int[] {3, 23}, k -> x.part(0, 11, k, 0));
        due.throwsFor("what", BEYOND_FRACTION, what -> x.part(0, 11, 2, what));
    }

    @Says(at = "Promise 10", words = "it is not COUNTED")
    static void noPartOfOneNotCounted(Due due) {
        RiverWage x = Edge.twoKitchens();
        x.kitchen(2, 0, 1, 1, false);
        due.throwsNone("silent in both", () -> x.part(0, 11, 2, 0));
        x.call(2, 0, 0, 0);
        due.throwsNone("silent in a", () -> x.part(0, 11, 2, 0));
        due.throwsNone("silent in b", () -> x.part(11, 0, 2, 0));
        x.call(2, 11, NONE, NONE);
        due.isFraction("shut is counted", what -> x.part(0, 11, 2, what), 0, -5, 1);
    }

    @Says(at = "Promise 10", words = "no RIVER without it")
    static void noPartOfTheOnlyOne(Due due) {
        RiverWage x = Edge.twoKitchens();
        due.throwsFor("the only ones", new int[] {0, 1}, k -> x.part(0, 11, k, 0));
        Edge.many(x, 1, 2, 1, 0, 0);
        due.throwsNone("still the only one of bank 0", () -> x.part(0, 11, 0, 0));
        due.isFraction("one of two", what -> x.part(0, 11, 1, what), 0, -10, 1);
        x.kitchen(0, 1, 1, 1, false);
        due.throwsFor("none with it either", new int[] {0, 1, 2}, k -> x.part(0, 11, k, 0));
    }

    @Says(at = "Promise 11", words = "NoSuchElementException: others")
    static void boundsRefuse(Due due) {
        RiverWage x = Edge.twoKitchens();
        due.throwsFor("b", BEYOND_MONTHS, b -> x.bounds(b, 11, 0));
        due.throwsFor("a", BEYOND_MONTHS, a -> x.bounds(0, a, 0));
        due.throwsFor("what", BEYOND_EXTREMES, what -> x.bounds(0, 11, what));
    }

    @Says(at = "Promise 11", words = "no KITCHEN on a BANK")
    static void noBoundsWithoutBothBanks(Due due) {
        RiverWage x = new RiverWage();
        due.throwsNone("no kitchen", () -> x.bounds(0, 11, 0));
        x.kitchen(0, 0, 1, 1, false);
        Edge.hands(x, 0, 1, 1);
        due.throwsFor("none on bank 1", new int[] {0, 1, 2, 3}, what -> x.bounds(0, 11, what));
        x.kitchen(0, 1, 1, 1, false);
        due.throwsFor("none on bank 0", new int[] {0, 1, 2, 3}, what -> x.bounds(0, 11, what));
        x.kitchen(23, 0, 1, 0, false);
        bounds(due, "a silent one will do", x, 0, 0);
    }

    @Says(at = "Promise 12", words = "NONE: others")
    static void swingsRefuses(Due due) {
        RiverWage x = Edge.twoKitchens();
        due.is("it is there", x.swings(0, 11), 0);
        due.isFor("b", BEYOND_MONTHS, b -> x.swings(b, 11), NONE);
        due.isFor("a", BEYOND_MONTHS, a -> x.swings(0, a), NONE);
    }

    @Says(at = "Promise 12", words = "no KITCHEN on a BANK")
    static void noSwingsWithoutBothBanks(Due due) {
        RiverWage x = new RiverWage();
        due.is("no kitchen", x.swings(0, 11), NONE);
        x.kitchen(0, 0, 1, 1, false);
        due.is("none on bank 1", x.swings(0, 11), NONE);
        x.kitchen(0, 1, 1, 1, false);
        due.is("none on bank 0", x.swings(0, 11), NONE);
        x.kitchen(23, 0, 1, 0, false);
        due.is("both are there", x.swings(0, 11), 1);
    }

    @Says(at = "Promise 13", words = "NONE: others")
    static void nextRefuses(Due due) {
        RiverWage x = Edge.twoKitchens();
        x.call(1, 0, 0, NONE);
        due.is("it is there", x.next(0, 11), 1);
        due.isFor("b", BEYOND_MONTHS, b -> x.next(b, 11), NONE);
        due.isFor("a", BEYOND_MONTHS, a -> x.next(0, a), NONE);
    }

    @Says(at = "Promise 13", words = "no SILENT one")
    static void nobodyToRing(Due due) {
        RiverWage x = Edge.twoKitchens();
        due.is("all told", x.next(0, 11), NONE);
        x.call(0, 0, NONE, NONE);
        due.is("a shut one needn't be rung", x.next(0, 11), NONE);
        x.kitchen(23, 1, 1, 0, false);
        due.is("a silent one that may have had no hands", x.next(0, 11), 23);
        Edge.hands(x, 23, 0, 0);
        due.is("all told again", x.next(0, 11), NONE);
        due.is("in other months they are silent", x.next(0, 10), 0);
    }

    @Says(at = "Promise 13", words = "no KITCHEN on a BANK")
    static void nobodyToRingWithoutBothBanks(Due due) {
        RiverWage x = new RiverWage();
        x.kitchen(0, 0, 1, 1, false);
        due.is("none on bank 1", x.next(0, 11), NONE);
        x.kitchen(0, 1, 1, 1, false);
        due.is("none on bank 0", x.next(0, 11), NONE);
        x.kitchen(1, 0, 1, 1, false);
        due.is("both are there", x.next(0, 11), 0);
    }

    @Says(at = "Promise 14", words = "NoSuchElementException: others")
    static void sheetsRefuse(Due due) {
        RiverWage x = Edge.twoKitchens();
        for (int k = 0; k < 2; k++) {
            x.sheet(k, 0, 1, 0);
            x.sheet(k, 11, 1, 0);
        }
        due.isFraction("it is there", what -> x.sheets(0, 11, true, what), 0, 0, 1);
        due.throwsFor("b", BEYOND_MONTHS, b -> x.sheets(b, 11, false, 0));
        due.throwsFor("a", BEYOND_MONTHS, a -> x.sheets(0, a, false, 0));
        due.throwsFor("what", BEYOND_FRACTION, what -> x.sheets(0, 11, false, what));
    }

    @Says(at = "Promise 14", words = "others, none.")
    static void noRiverBySheets(Due due) {
        RiverWage x = Edge.twoKitchens();
        due.throwsNone("no sheets", () -> x.sheets(0, 11, false, 0));
        x.sheet(0, 0, 1, 0);
        x.sheet(0, 11, 1, 0);
        due.throwsNone("of bank 0 alone", () -> x.sheets(0, 11, false, 0));
        x.kitchen(0, 1, 1, 1, true);
        due.throwsNone("of bank 1 alone", () -> x.sheets(0, 11, false, 0));
        x.sheet(1, 0, 1, 0);
        x.sheet(1, 11, 1, 0);
        x.kitchen(1, 0, 1, 1, false);
        due.isFraction("of both", what -> x.sheets(0, 11, false, what), 0, 0, 1);
        due.throwsNone("chosen on bank 1 alone", () -> x.sheets(0, 11, true, 0));
    }

    @Says(at = "Promise 15", words = "NoSuchElementException: others")
    static void choosingRefuses(Due due) {
        RiverWage x = Edge.twoKitchens();
        due.isFraction("it is there", what -> x.choosing(0, 11, 1, what), 2, -10, 1);
        due.throwsFor("b", BEYOND_MONTHS, b -> x.choosing(b, 11, 1, 0));
        due.throwsFor("a", BEYOND_MONTHS, a -> x.choosing(0, a, 1, 0));
        due.throwsFor("k", new int[] {0, -1, 13, Integer.MIN_VALUE, Integer.MAX_VALUE}, k -> x.choosing(0, 11, k, 0));
        due.throwsFor("what", BEYOND_EXTREMES, what -> x.choosing(0, 11, 1, what));
    }

    @Says(at = "Promise 15", words = "others, none.")
    static void choosingMoreThanAreCounted(Due due) {
        RiverWage x = Edge.twoKitchens();
        due.throwsFor("k", new int[] {2, 3, 12}, k -> x.choosing(0, 11, k, 3));
        x.call(0, 0, 0, NONE);
        due.throwsNone("1 of none", () -> x.choosing(0, 11, 1, 3));
    }

    @Says(at = "Promise 16", words = "NONE: others")
    static void oddsRefuse(Due due) {
        RiverWage x = Edge.twoKitchens();
        due.is("they are there", x.odds(0, 11, 1), 1);
        due.isFor("b", BEYOND_MONTHS, b -> x.odds(b, 11, 0), NONE);
        due.isFor("a", BEYOND_MONTHS, a -> x.odds(0, a, 0), NONE);
        due.isFor("what", BEYOND_FRACTION, what -> x.odds(0, 11, what), NONE);
    }

    @Says(at = "Promise 16", words = "no RIVER")
    static void noOddsWithoutARiver(Due due) {
        RiverWage x = Edge.twoKitchens();
        x.call(0, 0, 0, NONE);
        due.isFor("none counted on bank 0", new int[] {0, 1}, what -> x.odds(0, 11, what), NONE);
        x.call(0, 0, 0, 0);
        x.call(1, 0, 0, NONE);
        due.isFor("none counted on bank 1", new int[] {0, 1}, what -> x.odds(0, 11, what), NONE);
        x.call(0, 0, 0, NONE);
        due.isFor("none at all", new int[] {0, 1}, what -> x.odds(0, 11, what), NONE);
    }

    @Says(at = "Promise 16", words = "more than 14 COUNTED")
    static void noOddsOf15(Due due) {
        RiverWage x = new RiverWage();
        Edge.many(x, 0, 0, 1, 0, 1);
        Edge.many(x, 1, 1, 13, 0, 0);
        due.isFraction("14", what -> x.odds(0, 11, what), 0, 1, 14);
        Edge.many(x, 1, 14, 1, 0, 0);
        due.isFor("15", new int[] {0, 1}, what -> x.odds(0, 11, what), NONE);
        x.call(14, 11, 0, NONE);
        due.isFraction("14 again", what -> x.odds(0, 11, what), 0, 1, 14);
        Edge.many(x, 0, 14, 10, 0, 0);
        due.isFor("24", new int[] {0, 1}, what -> x.odds(0, 11, what), NONE);
    }

    @Says(at = "Promise 17", words = "NoSuchElementException: others")
    static void besideRefuses(Due due) {
        RiverWage x = besides();
        due.isFraction("it is there", what -> x.beside(0, 11, what), 0, 0, 1);
        due.throwsFor("b", BEYOND_MONTHS, b -> x.beside(b, 11, 0));
        due.throwsFor("a", BEYOND_MONTHS, a -> x.beside(0, a, 0));
        due.throwsFor("what", BEYOND_FRACTION, what -> x.beside(0, 11, what));
    }

    /** One that is BOUND and one that is FREE. */
    private static RiverWage besides() {
        RiverWage x = new RiverWage();
        Edge.many(x, 0, 0, 2, 1, 2);
        x.kitchen(1, 0, 500, 1, false);
        x.floor(0, 0, 500, 0);
        return x;
    }

    @Says(at = "Promise 17", words = "others, none.")
    static void besideWithBankOneAlone(Due due) {
        RiverWage x = besides();
        x.kitchen(0, 1, 400, 1, false);
        due.throwsNone("free ones alone", () -> x.beside(0, 11, 0));
        x.kitchen(1, 1, 500, 1, false);
        due.throwsNone("bank 1 alone", () -> x.beside(0, 11, 0));
        x.kitchen(0, 0, 400, 1, false);
        due.throwsNone("bound ones alone", () -> x.beside(0, 11, 0));
        due.throwsNone("silent in a", () -> x.beside(0, 5, 0));
    }

    @Says(at = "Promise 18", words = "NONE: others")
    static void alikeRefuses(Due due) {
        RiverWage x = Edge.twoKitchens();
        x.call(0, 1, 4, 0);
        x.call(1, 1, 4, 0);
        due.is("it is there", x.alike(11, 2), 1);
        due.isFor("month", new int[] {0, -1, 12, Integer.MIN_VALUE, Integer.MAX_VALUE}, m -> x.alike(m, 0), NONE);
        due.isFor("what", Edge.beyond(0, 2), what -> x.alike(11, what), NONE);
    }

    @Says(at = "Promise 18", words = "none (1, 2)")
    static void alikeOfNone(Due due) {
        RiverWage x = Edge.twoKitchens();
        due.is("how many", x.alike(11, 0), 0);
        due.is("above", x.alike(11, 1), NONE);
        due.is("below", x.alike(11, 2), NONE);
        x.call(0, 10, 4, 0);
        x.call(1, 10, 5, 0);
        due.is("one, of 0", x.alike(11, 0), 1);
        due.is("above", x.alike(11, 1), 0);
        due.is("below", x.alike(11, 2), 1);
        due.is("none up to 10", x.alike(10, 0), 0);
        due.is("none above up to 10", x.alike(10, 1), NONE);
    }

    @Says(at = "Promise 19", words = "NoSuchElementException: others")
    static void apartRefuses(Due due) {
        RiverWage x = Edge.twoKitchens();
        due.throwsFor("b", BEYOND_MONTHS, b -> x.apart(b, 11, 0, 0));
        due.throwsFor("a", BEYOND_MONTHS, a -> x.apart(0, a, 0, 0));
        due.throwsFor("d", Edge.beyond(-99, 99), d -> x.apart(0, 11, d, 0));
        due.throwsFor("what", BEYOND_FRACTION, what -> x.apart(0, 11, 0, what));
    }

    @Says(at = "Promise 19", words = "others, none.")
    static void apartWithoutARiver(Due due) {
        RiverWage x = Edge.twoKitchens();
        due.throwsNone("silent months", () -> x.apart(0, 5, 0, 0));
        x.call(1, 0, 0, NONE);
        due.throwsNone("none on bank 1", () -> x.apart(0, 11, 99, 0));
        x.call(1, 0, 0, 0);
        x.call(0, 0, 0, NONE);
        due.throwsNone("none on bank 0", () -> x.apart(0, 11, -99, 1));
    }
}
