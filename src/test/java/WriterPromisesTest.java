/** Promises 29 to 42: WRITERS, BOOKS, LOTS, SLIPS, WHERE NEXT, MARKS and counts. */
public final class WriterPromisesTest {
    private static final int NONE = RiverWage.NONE;
    private static final Due due = new Due("WriterPromisesTest");

    public static void main(String[] args) {
        promise29Writer();
        promise30Takes();
        promise31Writes();
        promise32Forks();
        promise33Book();
        promise34Booked();
        promise35Closes();
        promise36Lots();
        promise37Needed();
        promise38Slips();
        promise39Mixed();
        promise40Where();
        promise41Mark();
        promise42Count();
        due.close();
    }

    private static RiverWage fourKitchens() {
        return RiverPromisesTest.fourKitchens();
    }

    private static void promise29Writer() {
        RiverWage x = fourKitchens();
        due.is("writer", Texts.writer(x, 0, "take when bank = 1 ;"), 0);
        due.is("takes", x.takes(0, 0), 0);
        due.is("its fault", Texts.writer(x, 0, "take when 1 ; tenths"), Texts.fault(1, 20));
        due.is("tape is empty", x.count(6), 0);
        due.is("stays as it was", x.takes(0, 0), 0);
        for (int writer : new int[] {-1, 4, Integer.MIN_VALUE}) {
            Texts.feed(x, "take when 0 ;");
            due.is("no such writer", x.writer(writer), -1);
            due.is("tape is empty then", x.count(6), 0);
        }
        due.is("an empty text", x.writer(0), 0);
        due.is("takes all", x.takes(0, 0), 1);
        due.is("any order", Texts.writer(x, 3, "tenths 0;to 11;from 0;take when 1;"), 0);
        String[] texts = {"from 11 ;", "from 12 ;", "from 9999 ;", "from 10000 ;", "to 11 ;", "to 12 ;", "tenths 10 ;",
            "tenths 11 ;", "from ;", "to ;", "tenths ;", "from x ;", "from ( 1 ) ;", "from 1 + 1 ;", "from 1", "from",
            "from 1 1 ;", "take 1 ;", "take when ;", "take when when ;", "hire 1 ;", "shut when 1 ;", "take when draw ;",
            "take when whole ;", "take when half ;", "take when floor ;", "take when gap ;", "take when month ;",
            "take when trade ;", "take when was ;", "from 1 ; from 2 ;", "to 1 ; to 2 ;", "tenths 1 ; tenths 1 ;",
            "take when 1 ; take when 1 ;", "to 1 ; from 12 ; to 1 ;", "take when take ;", "from 1 ; from ;",
            "take when not not not not not 1 ;", "from 12", "from - 1 ;"};
        int[] wants = {0, Texts.fault(4, 5), Texts.fault(4, 5), Texts.fault(1, 5), 0, Texts.fault(4, 3), 0,
            Texts.fault(4, 7), Texts.fault(1, 5), Texts.fault(1, 3), Texts.fault(1, 7), Texts.fault(1, 5),
            Texts.fault(1, 5), Texts.fault(1, 7), Texts.fault(1, 6), Texts.fault(1, 4),
            Texts.fault(1, 7), Texts.fault(1, 5), Texts.fault(1, 10), Texts.fault(1, 10), Texts.fault(1, 0),
            Texts.fault(1, 0), Texts.fault(1, 10),
            Texts.fault(1, 10), Texts.fault(1, 10), Texts.fault(1, 10), Texts.fault(1, 10), Texts.fault(1, 10),
            Texts.fault(1, 10), Texts.fault(1, 10), Texts.fault(3, 9), Texts.fault(3, 7), Texts.fault(3, 11),
            Texts.fault(3, 14), Texts.fault(4, 12), Texts.fault(1, 10), Texts.fault(3, 9),
            Texts.fault(5, 30), Texts.fault(4, 5), Texts.fault(1, 5)};
        for (int i = 0; i < texts.length; i++) {
            due.is("writer '" + texts[i] + "'", Texts.writer(x, 1, texts[i]), wants[i]);
        }
    }

    private static void promise30Takes() {
        RiverWage x = fourKitchens();
        x.floor(0, 6, 450, 0);
        x.floor(1, 6, 426, 0);
        x.call(3, 4, NONE, NONE);
        x.call(3, 5, NONE, NONE);
        for (int kitchen = 0; kitchen < 4; kitchen++) {
            due.is("without a text", x.takes(0, kitchen), 1);
        }
        takes(x, "bank", 0, 0, 1, 1);
        takes(x, "wage = 425", 1, 0, 1, 0);
        takes(x, "most = 20", 0, 0, 0, 1);
        takes(x, "chosen", 1, 0, 1, 0);
        takes(x, "chosen = 1", 1, 0, 1, 0);
        takes(x, "silent = 10", 1, 1, 1, 0);
        takes(x, "silent = 8", 0, 0, 0, 1);
        takes(x, "shut = 2", 0, 0, 0, 1);
        takes(x, "bound", 1, 0, 1, 0);
        takes(x, "bound = 1", 1, 0, 1, 0);
        takes(x, "number = 2", 0, 0, 1, 0);
        takes(x, "hands = 120", 1, 0, 1, 0);
        takes(x, "0 - number", 0, 1, 1, 1);
        x.kitchen(4, 0, 1, 1, false);
        takes(x, "silent = 12 and shut = 0", 0, 0, 0, 0, 1);
        x.call(4, 0, NONE, NONE);
        x.call(4, 11, NONE, NONE);
        takes(x, "silent = 10 and shut = 2", 0, 0, 0, 0, 1);
        takesBy(x, "take when bound ; to 5 ;", 0, 0, 0, 0);
        takesBy(x, "take when hands = 140 ; from 11 ;", 1, 0, 0, 0);
        takesBy(x, "take when hands = 100 ; tenths 0 ;", 1, 0, 0, 0);
        takesBy(x, "take when hands = 0 ; from 1 ;", 1, 1, 1, 1);
        takesBy(x, "take when 1 ; from 4 ; to 4 ;", 1, 1, 1, 1);
        x.tenths(10);
        takes(x, "hands = 140", 1, 0, 0, 0);
        due.is("takes not told", x.takes(0, 5), NONE);
        due.is("takes no kitchen", x.takes(0, -1), NONE);
        due.is("takes no kitchen", x.takes(0, 24), NONE);
        due.is("takes no writer", x.takes(-1, 0), NONE);
        due.is("takes no writer", x.takes(4, 0), NONE);
    }

    private static void takes(RiverWage x, String test, int... wants) {
        takesBy(x, "take when " + test + " ;", wants);
    }

    private static void takesBy(RiverWage x, String text, int... wants) {
        due.is("no fault of " + text, Texts.writer(x, 2, text), 0);
        for (int kitchen = 0; kitchen < wants.length; kitchen++) {
            due.is(text + " takes " + kitchen, x.takes(2, kitchen), wants[kitchen]);
        }
    }

    private static void promise31Writes() {
        RiverWage x = fourKitchens();
        writes(x, "", 35, 1);
        writes(x, "tenths 0 ;", 10, 1);
        writes(x, "tenths 10 ;", 60, 1);
        x.tenths(1);
        writes(x, "", 15, 1);
        writes(x, "tenths 5 ;", 35, 1);
        x.tenths(5);
        writes(x, "from 11 ; to 0 ;", -35, 1);
        writes(x, "take when number < 3 ;", 25, 1);
        x.kitchen(4, 1, 1, 1, false);
        x.call(4, 0, 1, 0);
        x.call(4, 11, 1, 0);
        writes(x, "", 85, 3);
        writes(x, "take when most ;", 85, 3);
        writes(x, "take when 1 < most ;", 35, 1);
        x.call(4, 3, 7, 0);
        x.call(0, 3, 20, 0);
        writes(x, "from 3 ;", 0, 1);
        writes(x, "to 3 ;", 20, 1);
        Texts.writer(x, 1, "from 3 ; to 3 ;");
        due.throwsNone("the same months", () -> x.writes(1, 0));
        Texts.writer(x, 1, "from 11 ;");
        due.throwsNone("the same months", () -> x.writes(1, 0));
        Texts.writer(x, 1, "take when bank = 0 ;");
        due.throwsNone("one bank alone", () -> x.writes(1, 0));
        Texts.writer(x, 1, "from 1 ; to 2 ;");
        due.throwsNone("silent", () -> x.writes(1, 0));
        due.throwsNone("writes writer", () -> x.writes(-1, 0));
        due.throwsNone("writes writer", () -> x.writes(4, 0));
        due.throwsNone("writes what", () -> x.writes(0, -1));
        due.throwsNone("writes what", () -> x.writes(0, 2));
    }

    private static void writes(RiverWage x, String text, long above, long below) {
        due.is("no fault of " + text, Texts.writer(x, 1, text), 0);
        due.isFraction("writes by " + text, () -> x.writes(1, 0), () -> x.writes(1, 1), above, below);
    }

    private static void promise32Forks() {
        RiverWage x = new RiverWage();
        forks(x, 0, 0, 0);
        for (int what = 3; what < 7; what++) {
            int w = what;
            due.throwsNone("forks of none", () -> x.forks(w));
        }
        RiverWage y = fourKitchens();
        due.is("the least, before any other", y.forks(3), 10);
        due.is("a river below all forks", y.river(11, 0, NONE, 0), -35);
        forks(y, 44, 0, 44, 10, 1, 60, 1);
        Texts.writer(y, 0, "from 11 ; to 0 ;");
        due.is("the least of others", y.forks(3), -60);
        y.writer(0);
        forks(y, 44, 0, 44, 10, 1, 60, 1);
        Texts.writer(y, 0, "take when chosen ; tenths 0 ;");
        Texts.writer(y, 1, "from 11 ; to 0 ;");
        Texts.writer(y, 2, "from 3 ; to 3 ;");
        forks(y, 33, 11, 22, -60, 1, 60, 1);
        y.call(0, 11, 9, 5);
        y.call(1, 11, 8, 1);
        // by t TENTHS: -5 + t against -5 - 3t, of the chosen ones -10 + t against -10
        forks(y, 33, 10, 20, -40, 1, 40, 1);
        y.kitchen(4, 0, 1, 1, false);
        y.call(4, 0, 1, 0);
        y.call(4, 11, 0, 0);
        // -20/3 + 2t/3 against -5 - 3t
        forks(y, 33, 11, 21, -35, 1, 35, 1);
        // on BANK 1 only KITCHEN 3, with 90 + 10t hands, can be above 140: from 6 TENTHS on
        Texts.writer(y, 3, "take when bank = 0 or 140 < hands ; tenths 10 ;");
        due.is("hands by the TENTHS of the fork", y.forks(0), 27);
        for (int what : new int[] {-1, 7}) {
            due.throwsNone("forks what", () -> y.forks(what));
        }
    }

    private static void forks(RiverWage x, long... wants) {
        for (int what = 0; what < wants.length; what++) {
            due.is("forks(" + what + ")", x.forks(what), wants[what]);
        }
    }

    private static void promise33Book() {
        RiverWage x = fourKitchens();
        due.is("book", x.book(0, 0, 999, 99999), true);
        due.is("book", x.book(3, 11, 0, 0), true);
        int[][] wrong = {{-1, 0, 1, 1}, {24, 0, 1, 1}, {4, 0, 1, 1}, {0, -1, 1, 1}, {0, 12, 1, 1}, {0, 0, -1, 1},
            {0, 0, 1000, 1}, {0, 0, 1, -1}, {0, 0, 1, 100000}};
        for (int[] w : wrong) {
            due.is("book wrong", x.book(w[0], w[1], w[2], w[3]), false);
        }
        due.is("paid", x.booked(0, 0, 1), 120L * 999 * 425);
        due.is("rest", x.booked(0, 0, 2), 999990 - 120L * 999 * 425);
        due.is("in place", x.book(0, 0, 1, 2), true);
        due.is("paid then", x.booked(0, 0, 1), 120L * 425);
        due.is("rest then", x.booked(0, 0, 2), 20 - 120L * 425);
    }

    private static void promise34Booked() {
        RiverWage x = fourKitchens();
        x.floor(0, 3, 450, 0);
        x.floor(1, 0, 999, 0);
        x.book(0, 0, 10, 600);
        x.book(0, 11, 20, 100);
        due.is("rate by wage", x.booked(0, 2, 0), 425);
        due.is("rate by floor", x.booked(0, 3, 0), 450);
        due.is("rate of another bank", x.booked(2, 3, 0), 999);
        due.is("rate of a silent one", x.booked(0, 5, 0), 450);
        due.is("paid", x.booked(0, 11, 1), 140 * 20 * 450);
        due.is("rest", x.booked(0, 11, 2), 1000 - 140 * 20 * 450);
        due.is("paid without a book", x.booked(1, 0, 1), 0);
        x.call(0, 11, NONE, NONE);
        due.is("paid when shut", x.booked(0, 11, 1), 0);
        due.is("rest when shut", x.booked(0, 11, 2), 1000);
        due.throwsNone("paid when silent", () -> x.booked(0, 5, 1));
        due.throwsNone("rest when silent", () -> x.booked(0, 5, 2));
        due.throwsNone("booked not told", () -> x.booked(4, 0, 0));
        due.throwsNone("booked kitchen", () -> x.booked(-1, 0, 0));
        due.throwsNone("booked kitchen", () -> x.booked(24, 0, 0));
        due.throwsNone("booked month", () -> x.booked(0, -1, 0));
        due.throwsNone("booked month", () -> x.booked(0, 12, 0));
        due.throwsNone("booked what", () -> x.booked(0, 0, -1));
        due.throwsNone("booked what", () -> x.booked(0, 0, 3));
        RiverWage y = new RiverWage();
        y.kitchen(0, 0, 999, 99, false);
        y.call(0, 0, 99, 99);
        y.tenths(10);
        y.book(0, 0, 999, 0);
        due.is("the most paid", y.booked(0, 0, 1), 1980L * 999 * 999);
    }

    private static void promise35Closes() {
        RiverWage x = fourKitchens();
        x.floor(0, 6, 500, 0);
        x.book(0, 0, 100, 500);
        x.book(0, 11, 90, 600);
        closes(x, 0, 1200000, 850000, -595000, 945000, 1000, -1199000);
        closes(x, 1, 0, 0, 0, 0, 0, 0);
        x.book(1, 0, 3, 7);
        x.book(1, 11, 4, 9);
        x.floor(0, 6, 510, 0);
        long byHands = 850000 + 10 * 3 * 500;
        long byHours = -595000 + 90 * 1 * 500;
        long byRate = 140 * 90 * 85 + 90 * 4 * 10;
        long paid = byHands + byHours + byRate;
        closes(x, 0, paid, byHands, byHours, byRate, 1020, 1020 - paid);
        x.call(0, 11, 0, NONE);
        long left = 90 * 4 * 510 - 80 * 3 * 500;
        closes(x, 0, left, 10 * 3 * 500, 90 * 500, 90 * 4 * 10, 20, 20 - left);
        int[][] wrong = {{-1, 0, 11, 0}, {2, 0, 11, 0}, {0, -1, 11, 0}, {0, 0, 12, 0}, {0, 3, 3, 0}, {0, 0, 11, -1},
            {0, 0, 11, 6}};
        for (int[] w : wrong) {
            due.throwsNone("closes wrong", () -> x.closes(w[0], w[1], w[2], w[3]));
        }
        due.is("closes of none", new RiverWage().closes(0, 0, 1, 0), 0);
    }

    private static void closes(RiverWage x, int bank, long... wants) {
        for (int what = 0; what < 6; what++) {
            due.is("closes(" + bank + ", " + what + ")", x.closes(bank, 0, 11, what), wants[what]);
        }
    }

    private static void promise36Lots() {
        RiverWage x = new RiverWage();
        RiverPromisesTest.addChanges(x, 0, 0, 1, 2, 3);
        due.is("lots of one bank", x.lots(0, 1, 1, 0), NONE);
        RiverPromisesTest.addChanges(x, 1, 3, 0, 2);
        // 1 by 1: 1 against 0, 2 against 0, 3 against 0, 3 against 2 are above
        lots(x, 1, 2, 3);
        lots(x, 2, 1, 1);
        due.is("fewer than k", x.lots(0, 1, 3, 0), NONE);
        x.call(0, 1, 0, NONE);
        x.call(1, 1, 0, NONE);
        due.is("fewer than k on bank 0", x.lots(0, 1, 2, 0), NONE);
        RiverPromisesTest.addChanges(x, 0, 0, 1, 2, 3);
        RiverPromisesTest.addChanges(x, 1, 3, 1, 3);
        lots(x, 1, 1, 3);
        lots(x, 2, 1, 3);
        RiverPromisesTest.addChanges(x, 1, 3, 9, 9);
        lots(x, 1, 1, 1);
        RiverPromisesTest.addChanges(x, 1, 3, 9, -5);
        // of all it is 0, but 1 by 1 it never is
        lots(x, 1, 0, 1);
        RiverWage y = new RiverWage();
        RiverPromisesTest.addChanges(y, 0, 0, 1, 0, 0, 0, 0, 0, 0, 0, 0);
        RiverPromisesTest.addChanges(y, 1, 9, 0, 0, 0, 0, 0, 0, 0, 0, 0);
        lots(y, 1, 1, 9);
        lots(y, 4, 4, 9);
        lots(y, 9, 1, 1);
        due.is("lots 0", y.lots(0, 1, 0, 0), NONE);
        due.is("lots 10", y.lots(0, 1, 10, 0), NONE);
        due.is("lots same", y.lots(0, 0, 1, 0), NONE);
        due.is("lots month", y.lots(-1, 0, 1, 0), NONE);
        due.is("lots month", y.lots(0, 12, 1, 0), NONE);
        due.is("lots what", y.lots(0, 1, 1, -1), NONE);
        due.is("lots what", y.lots(0, 1, 1, 2), NONE);
        RiverPromisesTest.addChanges(y, 1, 18, 0);
        due.is("more than 9", y.lots(0, 1, 1, 0), NONE);
        y.kitchen(18, 0, 1, 1, false);
        due.is("more than 9", y.lots(0, 1, 1, 0), NONE);
        y.call(18, 0, 1, NONE);
        lots(y, 1, 1, 9);
    }

    private static void lots(RiverWage x, int k, long above, long below) {
        due.is("lots above " + k, x.lots(0, 1, k, 0), above);
        due.is("lots below " + k, x.lots(0, 1, k, 1), below);
    }

    private static void promise37Needed() {
        RiverWage y = new RiverWage();
        RiverPromisesTest.addChanges(y, 0, 0, 1, 0, 0, 0, 0, 0, 0, 0, 0);
        due.is("needed of one bank", y.needed(0, 1, 1), NONE);
        RiverPromisesTest.addChanges(y, 1, 9, 0, 0, 0, 0, 0, 0, 0, 0, 0);
        int[] ps = {1, 11, 12, 22, 23, 33, 34, 44, 45, 88, 89, 100};
        int[] ks = {1, 1, 2, 2, 3, 3, 4, 4, 5, 8, 9, 9};
        for (int i = 0; i < ps.length; i++) {
            due.is("needed " + ps[i], y.needed(0, 1, ps[i]), ks[i]);
        }
        due.is("needed 0", y.needed(0, 1, 0), NONE);
        due.is("needed 101", y.needed(0, 1, 101), NONE);
        due.is("needed same", y.needed(1, 1, 1), NONE);
        due.is("needed month", y.needed(-1, 1, 1), NONE);
        due.is("needed month", y.needed(0, 12, 1), NONE);
        RiverPromisesTest.addChanges(y, 1, 18, 0);
        due.is("needed of 10", y.needed(0, 1, 1), NONE);
        RiverWage x = new RiverWage();
        RiverPromisesTest.addChanges(x, 0, 0, 1, 2, 3);
        RiverPromisesTest.addChanges(x, 1, 3, 9, -5);
        due.is("by 2 it is 0 once in 3", x.needed(0, 1, 33), 2);
        due.is("no k", x.needed(0, 1, 34), NONE);
        RiverPromisesTest.addChanges(x, 1, 3, 1, 3);
        due.is("half at least", x.needed(0, 1, 33), 1);
    }

    private static void promise38Slips() {
        RiverWage x = fourKitchens();
        slips(x, 0, 0, 0, 0);
        x.sheet(0, 0, 10, 0);
        x.sheet(2, 0, 12, 0);
        slips(x, 0, 2, 1, 20);
        x.sheet(3, 0, 14, 0);
        slips(x, 0, 3, 1, 20);
        x.sheet(1, 0, 11, 0);
        slips(x, 0, 4, 2, 30);
        x.tenths(10);
        slips(x, 0, 4, 3, 50);
        x.tenths(5);
        x.call(1, 0, NONE, NONE);
        slips(x, 0, 4, 2, 110);
        x.call(1, 0, 0, NONE);
        slips(x, 0, 3, 1, 20);
        x.sheet(1, 5, 1, 1);
        slips(x, 5, 0, 0, 0);
        due.is("slips month", x.slips(-1, 0), NONE);
        due.is("slips month", x.slips(12, 0), NONE);
        due.is("slips what", x.slips(0, -1), NONE);
        due.is("slips what", x.slips(0, 3), NONE);
    }

    private static void slips(RiverWage x, int month, int... wants) {
        for (int what = 0; what < 3; what++) {
            due.is("slips(" + month + ", " + what + ")", x.slips(month, what), wants[what]);
        }
    }

    private static void promise39Mixed() {
        RiverWage x = fourKitchens();
        mixed(x, 35, 1, 35, 1);
        x.sheet(0, 0, 10, 0);
        mixed(x, 35, 1, 35, 1);
        x.sheet(0, 11, 12, 1);
        mixed(x, 35, 1, 75, 2);
        x.sheet(2, 0, 12, 0);
        x.sheet(2, 11, 12, 0);
        mixed(x, 30, 1, 75, 2);
        x.sheet(3, 0, 9, 0);
        x.sheet(3, 11, 0, 0);
        mixed(x, 30, 1, 135, 2);
        x.call(3, 11, 0, NONE);
        mixed(x, 15, 1, 55, 2);
        x.call(2, 0, 0, NONE);
        due.throwsNone("mixed of none", () -> x.mixed(0, 11, 0));
        RiverWage y = fourKitchens();
        due.throwsNone("mixed same", () -> y.mixed(0, 0, 0));
        due.throwsNone("mixed month", () -> y.mixed(0, 12, 0));
        due.throwsNone("mixed month", () -> y.mixed(-1, 11, 0));
        due.throwsNone("mixed what", () -> y.mixed(0, 11, -1));
        due.throwsNone("mixed what", () -> y.mixed(0, 11, 4));
    }

    private static void mixed(RiverWage x, long... wants) {
        for (int i = 0; i < 4; i += 2) {
            int what = i;
            due.isFraction("mixed " + what, () -> x.mixed(0, 11, what), () -> x.mixed(0, 11, what + 1),
                wants[what], wants[what + 1]);
        }
    }

    private static void promise40Where() {
        RiverWage x = new RiverWage();
        where(x, NONE, NONE);
        for (int k = 0; k < 6; k++) {
            x.kitchen(k, k < 4 ? 0 : 1, 400 + 10 * k, 1, false);
            for (int m = 0; m < 12; m++) {
                x.call(k, m, 1, 0);
            }
        }
        where(x, NONE, NONE);
        x.floor(0, 5, 400, 0);
        where(x, NONE, NONE);
        x.floor(0, 5, 401, 0);
        where(x, 5, 2);
        x.floor(0, 7, 421, 0);
        where(x, 7, 6);
        x.floor(0, 9, 425, 0);
        where(x, 7, 6);
        // BANK 1 grows by more: both of its KITCHENS by the four of BANK 0
        x.floor(1, 10, 900, 0);
        where(x, 10, 8);
        x.call(0, 10, 0, NONE);
        where(x, 7, 6);
        x.call(4, 6, 0, NONE);
        where(x, 9, 6);
        // a FLOOR that grows as much as that of the other BANK
        x.floor(1, 9, 4, 0);
        where(x, 7, 3);
        due.is("where what", x.where(-1), NONE);
        due.is("where what", x.where(2), NONE);
        RiverWage y = new RiverWage();
        y.kitchen(0, 0, 1, 1, false);
        y.kitchen(1, 1, 1, 1, false);
        for (int k = 0; k < 2; k++) {
            y.call(k, 0, 1, 0);
            y.call(k, 1, 1, 0);
        }
        y.floor(0, 0, 500, 0);
        where(y, NONE, NONE);
        y.floor(1, 0, 500, 0);
        y.floor(0, 1, 501, 0);
        where(y, 1, 1);
        y.kitchen(1, 1, 600, 1, false);
        where(y, 1, 1);
        y.kitchen(0, 0, 501, 1, false);
        where(y, NONE, NONE);
        y.kitchen(0, 0, 1, 1, false);
        y.kitchen(1, 1, 1, 1, false);
        y.floor(1, 1, 501, 0);
        where(y, NONE, NONE);
        y.floor(1, 1, 502, 0);
        where(y, 1, 1);
        // FLOORS that fall: the one that falls by less grows by more
        y.floor(1, 1, 400, 0);
        y.floor(0, 1, 499, 0);
        y.kitchen(1, 1, 450, 1, false);
        where(y, 1, 1);
        y.kitchen(0, 0, 499, 1, false);
        where(y, NONE, NONE);
    }

    private static void where(RiverWage x, int month, int weight) {
        due.is("where", x.where(0), month);
        due.is("weight", x.where(1), weight);
    }

    private static void promise41Mark() {
        RiverWage x = fourKitchens();
        x.sheet(0, 0, 1, 0);
        x.other(5, 1, true);
        due.is("mark", x.mark(0, false), true);
        x.call(0, 0, NONE, NONE);
        x.call(0, 5, 1, 1);
        x.call(1, 0, 0, NONE);
        x.sheet(0, 0, 9, 0);
        x.sheet(0, 1, 9, 0);
        x.other(6, 1, true);
        x.kitchen(5, 1, 1, 1, true);
        x.call(5, 0, 1, 1);
        x.tenths(10);
        x.floor(0, 0, 999, 0);
        x.book(0, 0, 7, 7);
        due.is("mark 3", x.mark(3, false), true);
        due.is("back", x.mark(0, true), true);
        due.is("calls are back", x.count(1), 8);
        due.is("hands are back", x.hands(0, 0), 140);
        due.is("told since is gone", x.hands(0, 5), NONE);
        due.is("silent since is told", x.hands(1, 0), 80);
        due.is("sheets are back", x.count(2), 1);
        due.is("sheet is back", x.slips(0, 2), 130);
        due.is("others are back", x.count(3), 1);
        due.is("kitchens stay", x.count(0), 5);
        due.is("but not their calls", x.hands(5, 0), NONE);
        due.is("tenths stay", x.count(5), 10);
        due.is("floors stay", x.booked(0, 0, 0), 999);
        due.is("books stay", x.booked(0, 0, 1), 140 * 7 * 999);
        due.is("fewer others than on it", x.mark(3, true), false);
        due.is("nothing changes then", x.hands(0, 0), 140);
        due.is("nothing changes then", x.count(3), 1);
        x.other(7, 1, false);
        due.is("as many are there", x.mark(3, true), true);
        due.is("calls of mark 3", x.hands(0, 0), 0);
        due.is("others by number", x.others(false, 0), 6);
        due.is("back again", x.mark(0, true), true);
        due.is("a mark stays", x.hands(0, 0), 140);
        x.call(0, 0, 2, 0);
        due.is("laid again", x.mark(0, false), true);
        x.call(0, 0, 3, 0);
        due.is("back", x.mark(0, true), true);
        due.is("the later one", x.hands(0, 0), 20);
        due.is("nothing on it", x.mark(1, true), false);
        for (int mark : new int[] {-1, 4}) {
            due.is("no such mark", x.mark(mark, false), false);
            due.is("no such mark", x.mark(mark, true), false);
        }
    }

    private static void promise42Count() {
        RiverWage x = fourKitchens();
        x.sheet(0, 0, 1, 1);
        x.call(0, 1, NONE, NONE);
        x.other(1, 1, true);
        x.other(1, 1, false);
        x.other(1, 1, false);
        x.tenths(7);
        Texts.feed(x, "abc");
        long[] counts = {4, 9, 1, 3, 1, 7, 3, 2};
        for (int what = 0; what < 8; what++) {
            due.is("count(" + what + ")", x.count(what), counts[what]);
        }
        due.is("count(-1)", x.count(-1), NONE);
        due.is("count(8)", x.count(8), NONE);
    }
}
