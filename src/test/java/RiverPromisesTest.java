/** Promises 1 to 19: what is told, the RIVER and what may be said about it. */
public final class RiverPromisesTest {
    private static final int NONE = RiverWage.NONE;
    private static final Due due = new Due("RiverPromisesTest");

    public static void main(String[] args) {
        promise1NewObject();
        promise2Kitchen();
        promise3Call();
        promise4Sheet();
        promise5Tenths();
        promise6Floor();
        promise7Hands();
        promise8Bank();
        promise9River();
        promise10Part();
        promise11Bounds();
        promise12Swings();
        promise13Next();
        promise14Sheets();
        promise15Choosing();
        promise16Odds();
        promise17Beside();
        promise18Alike();
        promise19Apart();
        due.close();
    }

    /** Changes from 0 to 11: 20 and 10 on BANK 0, -10 and -30 on BANK 1. */
    static RiverWage fourKitchens() {
        RiverWage x = new RiverWage();
        x.kitchen(0, 0, 425, 10, true);
        x.kitchen(1, 0, 500, 5, false);
        x.kitchen(2, 1, 425, 8, true);
        x.kitchen(3, 1, 450, 20, false);
        x.call(0, 0, 10, 4);
        x.call(0, 11, 11, 6);
        x.call(1, 0, 8, 0);
        x.call(1, 11, 8, 2);
        x.call(2, 0, 12, 0);
        x.call(2, 11, 11, 0);
        x.call(3, 0, 9, 10);
        x.call(3, 11, 9, 4);
        return x;
    }

    /** KITCHENS on a BANK from a number on, whose CHANGES from MONTH 0 to 1 are those told (in whole hands). */
    static void addChanges(RiverWage x, int bank, int from, int... changes) {
        for (int i = 0; i < changes.length; i++) {
            x.kitchen(from + i, bank, 400, 50, false);
            x.call(from + i, 0, 20, 0);
            x.call(from + i, 1, 20 + changes[i], 0);
        }
    }

    private static void promise1NewObject() {
        RiverWage x = new RiverWage();
        long[] counts = {0, 0, 0, 0, 0, 5, 0, 0, NONE};
        for (int what = 0; what < counts.length; what++) {
            due.is("new: count(" + what + ")", x.count(what), counts[what]);
        }
        due.is("new: hands", x.hands(0, 0), NONE);
        due.is("new: bank", x.bank(0, 0, 11, 0), 0);
        due.throwsNone("new: river", () -> x.river(0, 11, NONE, 0));
        due.is("new: world", x.world(0, 0, 0, 0), NONE);
        due.is("new: takes", x.takes(0, 0), NONE);
        due.is("new: mark back", x.mark(0, true), false);
        due.is("new: NONE", RiverWage.NONE, -1);
    }

    private static void promise2Kitchen() {
        RiverWage x = new RiverWage();
        due.is("kitchen lowest", x.kitchen(0, 0, 0, 0, false), true);
        due.is("kitchen highest", x.kitchen(23, 1, 999, 99, true), true);
        int[][] wrong = {{-1, 0, 1, 1}, {24, 0, 1, 1}, {1, -1, 1, 1}, {1, 2, 1, 1}, {1, 0, -1, 1},
            {1, 0, 1000, 1}, {1, 0, 1, -1}, {1, 0, 1, 100}, {Integer.MIN_VALUE, 0, 1, 1},
            {Integer.MAX_VALUE, 0, 1, 1}};
        for (int[] w : wrong) {
            due.is("kitchen wrong", x.kitchen(w[0], w[1], w[2], w[3], true), false);
        }
        due.is("kitchens", x.count(0), 2);
        due.is("chosen", x.count(7), 1);

        RiverWage y = fourKitchens();
        y.sheet(3, 0, 1, 0);
        due.is("told again", y.kitchen(3, 0, 1, 1, true), true);
        due.is("count stays", y.count(0), 4);
        due.is("calls stay", y.count(1), 8);
        due.is("sheets stay", y.count(2), 1);
        due.is("chosen now", y.count(7), 3);
        due.is("hands stay", y.hands(3, 11), 110);
        due.is("on the other bank", y.bank(0, 0, 11, 0), 3);
        due.is("a wrong one changes nothing", y.kitchen(3, 1, 1, 100, false), false);
        due.is("still there", y.bank(0, 0, 11, 0), 3);
    }

    private static void promise3Call() {
        RiverWage x = new RiverWage();
        due.is("call of none", x.call(0, 0, 1, 1), false);
        x.kitchen(0, 0, 400, 10, false);
        due.is("call least", x.call(0, 0, 0, 0), true);
        due.is("call most", x.call(0, 11, 99, 99), true);
        due.is("hands least", x.hands(0, 0), 0);
        due.is("hands most", x.hands(0, 11), 1485);
        due.is("two calls", x.count(1), 2);
        due.is("shut", x.call(0, 11, NONE, NONE), true);
        due.is("shut hands", x.hands(0, 11), 0);
        due.is("shut is told", x.count(1), 2);
        due.is("silent again", x.call(0, 11, 5, NONE), true);
        due.is("silent hands", x.hands(0, 11), NONE);
        due.is("silent isn't told", x.count(1), 1);
        int[][] wrong = {{-1, 0, 1, 1}, {24, 0, 1, 1}, {1, 0, 1, 1}, {0, -1, 1, 1}, {0, 12, 1, 1}, {0, 0, 100, 1},
            {0, 0, 1, 100}, {0, 0, -1, 3}, {0, 0, -1, 0}, {0, 0, -2, 1}, {0, 0, 1, -2}, {0, 0, -2, -1},
            {0, 0, 100, -1}, {0, 0, -2, -2}, {1, 0, -1, -1}, {0, 12, -1, -1}, {0, 12, 1, -1}};
        x.call(0, 0, 3, 0);
        for (int[] w : wrong) {
            due.is("call wrong " + w[0] + " " + w[1] + " " + w[2] + " " + w[3],
                x.call(w[0], w[1], w[2], w[3]), false);
            due.is("unchanged", x.hands(0, 0), 30);
            due.is("no more calls", x.count(1), 1);
        }
    }

    private static void promise4Sheet() {
        RiverWage x = new RiverWage();
        due.is("sheet of none", x.sheet(0, 0, 1, 1), false);
        x.kitchen(0, 0, 400, 10, false);
        due.is("sheet", x.sheet(0, 0, 99, 99), true);
        due.is("sheet", x.sheet(0, 11, 0, 0), true);
        due.is("sheet again", x.sheet(0, 11, 1, 0), true);
        due.is("sheets told", x.count(2), 2);
        due.is("no call", x.count(1), 0);
        due.is("hands are by call", x.hands(0, 0), NONE);
        int[][] wrong = {{-1, 0, 1, 1}, {24, 0, 1, 1}, {1, 0, 1, 1}, {0, -1, 1, 1}, {0, 12, 1, 1}, {0, 1, 100, 1},
            {0, 1, 1, 100}, {0, 1, -1, 1}, {0, 1, 1, -1}, {0, 1, -1, -1}};
        for (int[] w : wrong) {
            due.is("sheet wrong", x.sheet(w[0], w[1], w[2], w[3]), false);
        }
        due.is("no more sheets", x.count(2), 2);
    }

    private static void promise5Tenths() {
        RiverWage x = fourKitchens();
        due.is("hands by 5", x.hands(0, 11), 140);
        due.is("tenths 0", x.tenths(0), true);
        due.is("hands by 0", x.hands(0, 11), 110);
        due.is("tenths 10", x.tenths(10), true);
        due.is("hands by 10", x.hands(0, 11), 170);
        due.is("tenths -1", x.tenths(-1), false);
        due.is("tenths 11", x.tenths(11), false);
        due.is("stays", x.count(5), 10);
    }

    private static void promise6Floor() {
        RiverWage x = fourKitchens();
        due.is("floor", x.floor(0, 3, 430, -99), true);
        due.is("before", rate(x, 0, 2), 425);
        due.is("from then", rate(x, 0, 3), 430);
        due.is("to the end", rate(x, 0, 11), 430);
        due.is("not the other bank", rate(x, 2, 11), 425);
        due.is("floor before", x.floor(0, 1, 440, 99), true);
        due.is("from then on all", rate(x, 0, 11), 440);
        due.is("floor of the last month", x.floor(0, 11, 999, 0), true);
        due.is("the month before it", rate(x, 0, 10), 440);
        due.is("the last", rate(x, 0, 11), 999);
        due.is("floor 0", x.floor(1, 0, 0, 0), true);
        int[][] wrong = {{-1, 0, 1, 0}, {2, 0, 1, 0}, {0, -1, 1, 0}, {0, 12, 1, 0}, {0, 0, -1, 0}, {0, 0, 1000, 0},
            {0, 0, 1, -100}, {0, 0, 1, 100}};
        for (int[] w : wrong) {
            due.is("floor wrong", x.floor(w[0], w[1], w[2], w[3]), false);
        }
        due.is("unchanged", rate(x, 0, 0), 425);
        Texts.law(x, 0, "part trade ; hire 0 ;");
        due.is("trade at first", x.world(0, 0, 0, 0), 120);
        due.is("trade from then", x.world(0, 0, 0, 1), 495);
        due.is("trade of the last", x.world(0, 0, 0, 11), 0);
    }

    private static long rate(RiverWage x, int kitchen, int month) {
        return x.booked(kitchen, month, 0);
    }

    private static void promise7Hands() {
        RiverWage x = fourKitchens();
        due.is("hands", x.hands(3, 0), 140);
        due.is("silent", x.hands(3, 1), NONE);
        due.is("not told", x.hands(4, 0), NONE);
        due.is("no kitchen", x.hands(-1, 0), NONE);
        due.is("no kitchen", x.hands(24, 0), NONE);
        due.is("no month", x.hands(0, -1), NONE);
        due.is("no month", x.hands(0, 12), NONE);
    }

    private static void promise8Bank() {
        RiverWage x = fourKitchens();
        x.kitchen(4, 0, 1, 1, false);
        x.call(4, 0, 1, 0);
        x.kitchen(5, 0, 1, 1, false);
        x.call(5, 0, NONE, NONE);
        x.call(5, 11, 2, 1);
        x.kitchen(6, 0, 1, 1, false);
        x.call(6, 0, 3, 0);
        x.call(6, 11, NONE, NONE);
        x.kitchen(7, 0, 1, 1, false);
        x.call(7, 11, NONE, NONE);
        x.kitchen(8, 0, 1, 1, false);
        x.call(8, 0, NONE, NONE);
        x.call(8, 11, NONE, NONE);
        int[] wants = {5, 2, 2, 1, 20 + 10 + 25 - 30};
        for (int what = 0; what < 5; what++) {
            due.is("bank(0, " + what + ")", x.bank(0, 0, 11, what), wants[what]);
        }
        due.is("bank 1 counted", x.bank(1, 0, 11, 0), 2);
        due.is("bank 1 changes", x.bank(1, 0, 11, 4), -40);
        due.is("backwards", x.bank(0, 11, 0, 4), -25);
        due.is("backwards shut", x.bank(0, 11, 0, 2), 1);
        due.is("backwards open", x.bank(0, 11, 0, 3), 2);
        due.is("silent months", x.bank(0, 1, 2, 1), 7);
        int[][] wrong = {{-1, 0, 11, 0}, {2, 0, 11, 0}, {0, -1, 11, 0}, {0, 12, 11, 0}, {0, 0, -1, 0}, {0, 0, 12, 0},
            {0, 5, 5, 0}, {0, 0, 11, -1}, {0, 0, 11, 5}};
        for (int[] w : wrong) {
            due.throwsNone("bank wrong", () -> x.bank(w[0], w[1], w[2], w[3]));
        }
    }

    private static void promise9River() {
        RiverWage x = fourKitchens();
        river(x, 0, 11, NONE, 35, 1);
        river(x, 11, 0, NONE, -35, 1);
        river(x, 0, 11, 0, 30, 1);
        river(x, 0, 11, 3, 25, 1);
        for (int k = 4; k < 24; k++) {
            int untold = k;
            due.throwsNone("river without " + k + ", not told", () -> x.river(0, 11, untold, 0));
            due.throwsNone("river without " + k + ", not told", () -> x.river(0, 11, untold, 1));
        }
        x.kitchen(23, 1, 1, 1, false);
        river(x, 0, 11, 23, 35, 1);
        due.throwsNone("river without 4, not told yet", () -> x.river(0, 11, 4, 0));
        x.kitchen(4, 0, 1, 1, false);
        river(x, 0, 11, 4, 35, 1);
        x.call(4, 0, 0, 0);
        x.call(4, 11, 0, 2);
        river(x, 0, 11, NONE, 100, 3);
        x.call(2, 11, 12, 0);
        x.call(3, 11, 9, 10);
        x.call(0, 11, 8, 0);
        river(x, 0, 11, NONE, -20, 3);
        x.call(4, 11, 3, 0);
        river(x, 0, 11, NONE, 0, 1);
        RiverWage y = new RiverWage();
        addChanges(y, 0, 0, 3);
        due.throwsNone("river with one bank", () -> y.river(0, 1, NONE, 0));
        addChanges(y, 1, 1, 1);
        river(y, 0, 1, NONE, 20, 1);
        due.throwsNone("river without the only one", () -> y.river(0, 1, 0, 0));
        due.throwsNone("river without the only one", () -> y.river(0, 1, 1, 1));
        due.throwsNone("river of silent months", () -> y.river(0, 2, NONE, 0));
        riverWithoutUntold();
        int[][] wrong = {{0, 0, -1, 0}, {-1, 1, -1, 0}, {0, 12, -1, 0}, {12, 0, -1, 0}, {0, -1, -1, 0}, {0, 1, -2, 0},
            {0, 1, 24, 0}, {0, 1, -1, -1}, {0, 1, -1, 2}};
        for (int[] w : wrong) {
            due.throwsNone("river wrong", () -> y.river(w[0], w[1], w[2], w[3]));
        }
    }

    /** A KITCHEN moved to the other BANK keeps its CALLS; a number that is no KITCHEN can't be left out. */
    private static void riverWithoutUntold() {
        RiverWage x = new RiverWage();
        x.kitchen(3, 0, 0, 0, false);
        x.call(3, 6, 0, 0);
        x.call(3, 3, 0, 0);
        x.kitchen(3, 1, 0, 0, false);
        x.kitchen(5, 0, 0, 0, false);
        x.call(5, 6, 0, 0);
        x.call(5, 3, 0, 0);
        river(x, 6, 3, NONE, 0, 1);
        due.throwsNone("river without 0, not told", () -> x.river(6, 3, 0, 0));
        due.throwsNone("river without 4, not told", () -> x.river(6, 3, 4, 1));
        x.kitchen(0, 0, 0, 0, false);
        river(x, 6, 3, 0, 0, 1);
    }

    private static void river(RiverWage x, int b, int a, int without, long above, long below) {
        due.isFraction("river(" + b + ", " + a + ", " + without + ")",
            () -> x.river(b, a, without, 0), () -> x.river(b, a, without, 1), above, below);
    }

    private static void promise10Part() {
        RiverWage x = fourKitchens();
        due.isFraction("part 0", () -> x.part(0, 11, 0, 0), () -> x.part(0, 11, 0, 1), 5, 1);
        due.isFraction("part 1", () -> x.part(0, 11, 1, 0), () -> x.part(0, 11, 1, 1), -5, 1);
        due.isFraction("part 2", () -> x.part(0, 11, 2, 0), () -> x.part(0, 11, 2, 1), -10, 1);
        addChangesFrom0To11(x);
        due.isFraction("part of three", () -> x.part(0, 11, 4, 0), () -> x.part(0, 11, 4, 1), -5, 3);
        x.kitchen(5, 0, 1, 1, false);
        due.throwsNone("part of a silent one", () -> x.part(0, 11, 5, 0));
        due.throwsNone("part of one not told", () -> x.part(0, 11, 6, 0));
        due.throwsNone("part of none", () -> x.part(0, 11, NONE, 0));
        due.throwsNone("part of 24", () -> x.part(0, 11, 24, 0));
        due.throwsNone("part of the same month", () -> x.part(11, 11, 0, 0));
        due.throwsNone("part month", () -> x.part(0, 12, 0, 0));
        due.throwsNone("part month", () -> x.part(-1, 11, 0, 0));
        due.throwsNone("part what", () -> x.part(0, 11, 0, 2));
        due.throwsNone("part what", () -> x.part(0, 11, 0, -1));
        RiverWage y = new RiverWage();
        addChanges(y, 0, 0, 1);
        addChanges(y, 1, 1, 1, 2);
        due.throwsNone("part of the only one", () -> y.part(0, 1, 0, 0));
        due.isFraction("part of one of two", () -> y.part(0, 1, 2, 0), () -> y.part(0, 1, 2, 1), -5, 1);
        RiverWage z = new RiverWage();
        addChanges(z, 0, 0, 1, 2);
        due.throwsNone("part without a river", () -> z.part(0, 1, 0, 0));
    }

    /** A third one on BANK 0, CHANGE 10: the MEAN there falls from 15 to 40/3. */
    private static void addChangesFrom0To11(RiverWage x) {
        x.kitchen(4, 0, 1, 1, false);
        x.call(4, 0, 0, 0);
        x.call(4, 11, 1, 0);
    }

    private static void promise11Bounds() {
        RiverWage x = fourKitchens();
        bounds(x, 0, 11, 35, 1, 35, 1);
        x.call(1, 11, 0, NONE);
        bounds(x, 0, 11, -10, 1, 15, 1);
        x.call(1, 0, 0, NONE);
        bounds(x, 0, 11, 5, 1, 55, 1);
        x.call(3, 0, 0, NONE);
        // BANK 1 then lies from (-10 + 110 - 200) / 2 to (-10 + 110) / 2
        bounds(x, 0, 11, -65, 1, 85, 1);
        x.kitchen(4, 1, 1, 3, false);
        // and with a third one from (-100 - 30) / 3 to (100 + 30) / 3, against -15 to 35
        bounds(x, 0, 11, -15 * 3 - 130, 3, 35 * 3 + 130, 3);
        bounds(x, 11, 0, -35 * 3 - 130, 3, 15 * 3 + 130, 3);
        due.throwsNone("bounds same", () -> x.bounds(0, 0, 0));
        due.throwsNone("bounds month", () -> x.bounds(-1, 0, 0));
        due.throwsNone("bounds month", () -> x.bounds(0, 12, 0));
        due.throwsNone("bounds what", () -> x.bounds(0, 11, 4));
        due.throwsNone("bounds what", () -> x.bounds(0, 11, -1));
        RiverWage y = new RiverWage();
        due.throwsNone("bounds of none", () -> y.bounds(0, 11, 0));
        y.kitchen(0, 0, 1, 1, false);
        due.throwsNone("bounds of bank 0", () -> y.bounds(0, 11, 0));
        y.kitchen(1, 1, 1, 0, false);
        bounds(y, 0, 11, -10, 1, 10, 1);
        y.kitchen(0, 1, 1, 1, false);
        due.throwsNone("bounds of bank 1", () -> y.bounds(0, 11, 0));
    }

    private static void bounds(RiverWage x, int b, int a, long... want) {
        String name = "bounds(" + b + ", " + a + ")";
        long common = gcd(want[0], want[1]);
        due.isFraction(name, () -> x.bounds(b, a, 0), () -> x.bounds(b, a, 1), want[0] / common, want[1] / common);
        long other = gcd(want[2], want[3]);
        due.isFraction(name, () -> x.bounds(b, a, 2), () -> x.bounds(b, a, 3), want[2] / other, want[3] / other);
    }

    private static long gcd(long x, long y) {
        return y == 0 ? Math.abs(x) : gcd(y, x % y);
    }

    private static void promise12Swings() {
        RiverWage x = fourKitchens();
        due.is("swings", x.swings(0, 11), 0);
        due.is("swings below 0", x.swings(11, 0), 0);
        x.call(1, 11, 0, NONE);
        due.is("swings now", x.swings(0, 11), 1);
        // the least is then 0 exactly: (20 + 0 - 80) / 2 + 30
        x.call(2, 11, 10, 0);
        x.call(3, 11, 10, 0);
        due.is("0 is one of them", x.swings(0, 11), 1);
        x.call(3, 11, 9, 9);
        due.is("just not below", x.bounds(0, 11, 0) < 0 ? 1 : 0, x.swings(0, 11));
        x.call(3, 11, 9, 1);
        due.is("just above", x.swings(0, 11), 0);
        due.is("swings same", x.swings(3, 3), NONE);
        due.is("swings month", x.swings(-1, 3), NONE);
        due.is("swings month", x.swings(0, 12), NONE);
        RiverWage y = new RiverWage();
        addChanges(y, 0, 0, 1);
        due.is("swings of one bank", y.swings(0, 1), NONE);
        addChanges(y, 1, 1, 1);
        due.is("swings at 0", y.swings(0, 1), 1);
    }

    private static void promise13Next() {
        RiverWage x = fourKitchens();
        due.is("no silent one", x.next(0, 11), NONE);
        x.call(3, 11, 0, NONE);
        due.is("the only one", x.next(0, 11), 3);
        x.call(2, 11, 0, NONE);
        due.is("by most", x.next(0, 11), 3);
        x.kitchen(2, 1, 425, 20, true);
        due.is("of equal ones the first", x.next(0, 11), 2);
        x.call(3, 0, 0, NONE);
        due.is("silent twice", x.next(0, 11), 3);
        x.call(0, 11, 0, NONE);
        x.kitchen(0, 0, 425, 39, true);
        due.is("just less", x.next(0, 11), 3);
        x.kitchen(0, 0, 425, 41, true);
        due.is("just more", x.next(0, 11), 0);
        x.kitchen(4, 0, 1, 1, false);
        due.is("by how many are on the bank", x.next(0, 11), 3);
        x.call(3, 11, 1, 0);
        x.kitchen(0, 0, 425, 29, true);
        due.is("in one of both months", x.next(0, 11), 2);
        due.is("next same", x.next(4, 4), NONE);
        due.is("next month", x.next(-1, 4), NONE);
        due.is("next month", x.next(4, 12), NONE);
        RiverWage y = new RiverWage();
        y.kitchen(5, 1, 1, 0, false);
        due.is("bank 1 alone", y.next(0, 1), NONE);
        y.kitchen(5, 0, 1, 0, false);
        due.is("bank 0 alone", y.next(0, 1), NONE);
        y.kitchen(7, 1, 1, 0, false);
        due.is("most 0", y.next(0, 1), 5);
        y.kitchen(7, 1, 1, 1, false);
        due.is("more than 0", y.next(0, 1), 7);
    }

    private static void promise14Sheets() {
        RiverWage x = fourKitchens();
        due.throwsNone("no sheets", () -> x.sheets(0, 11, false, 0));
        x.sheet(0, 0, 10, 0);
        x.sheet(0, 11, 12, 0);
        x.sheet(2, 0, 12, 0);
        x.sheet(2, 11, 12, 0);
        sheets(x, true, 20, 1);
        sheets(x, false, 20, 1);
        x.sheet(1, 0, 10, 0);
        sheets(x, false, 20, 1);
        x.sheet(1, 11, 10, 1);
        sheets(x, false, 25, 2);
        sheets(x, true, 20, 1);
        x.call(0, 0, 0, NONE);
        sheets(x, true, 20, 1);
        x.kitchen(2, 1, 1, 1, false);
        due.throwsNone("none chosen", () -> x.sheets(0, 11, true, 0));
        sheets(x, false, 25, 2);
        due.throwsNone("sheets same", () -> x.sheets(0, 0, false, 0));
        due.throwsNone("sheets month", () -> x.sheets(0, 12, false, 0));
        due.throwsNone("sheets month", () -> x.sheets(-1, 11, false, 0));
        due.throwsNone("sheets what", () -> x.sheets(0, 11, false, 2));
        due.throwsNone("sheets what", () -> x.sheets(0, 11, false, -1));
    }

    private static void sheets(RiverWage x, boolean chosen, long above, long below) {
        due.isFraction("sheets(" + chosen + ")",
            () -> x.sheets(0, 11, chosen, 0), () -> x.sheets(0, 11, chosen, 1), above, below);
    }

    private static void promise15Choosing() {
        RiverWage x = new RiverWage();
        addChanges(x, 0, 0, 3, -1, 5, 0);
        addChanges(x, 1, 10, 2, 2, -4);
        choosing(x, 1, -30, 1, 90, 1);
        choosing(x, 2, -25, 1, 50, 1);
        choosing(x, 3, 20, 3, 80, 3);
        due.throwsNone("too few", () -> x.choosing(0, 1, 4, 0));
        x.kitchen(3, 1, 400, 50, false);
        x.call(2, 1, 0, NONE);
        due.throwsNone("too few on bank 0", () -> x.choosing(0, 1, 3, 0));
        due.throwsNone("k 0", () -> x.choosing(0, 1, 0, 0));
        due.throwsNone("k 13", () -> x.choosing(0, 1, 13, 0));
        due.throwsNone("choosing same", () -> x.choosing(1, 1, 1, 0));
        due.throwsNone("choosing month", () -> x.choosing(1, 12, 1, 0));
        due.throwsNone("choosing month", () -> x.choosing(-1, 1, 1, 0));
        due.throwsNone("choosing what", () -> x.choosing(0, 1, 1, 4));
        due.throwsNone("choosing what", () -> x.choosing(0, 1, 1, -1));
        RiverWage y = new RiverWage();
        addChanges(y, 0, 0, 1, 2, 3, 4, 5, 6, 7, 8, 9, 10, 11, 12);
        addChanges(y, 1, 12, 0, 0, 0, 0, 0, 0, 0, 0, 0, 0, 0, -1);
        choosing(y, 12, 790, 12, 790, 12);
        choosing(y, 11, 60, 1, 780, 11);
    }

    private static void choosing(RiverWage x, int k, long... want) {
        String name = "choosing " + k;
        long common = gcd(want[0], want[1]);
        due.isFraction(name, () -> x.choosing(0, 1, k, 0), () -> x.choosing(0, 1, k, 1),
            want[0] / common, want[1] / common);
        long other = gcd(want[2], want[3]);
        due.isFraction(name, () -> x.choosing(0, 1, k, 2), () -> x.choosing(0, 1, k, 3),
            want[2] / other, want[3] / other);
    }

    private static void promise16Odds() {
        RiverWage x = fourKitchens();
        odds(x, 0, 11, 1, 3);
        RiverWage y = new RiverWage();
        addChanges(y, 1, 0, 5);
        due.is("odds of bank 1 alone", y.odds(0, 1, 0), NONE);
        addChanges(y, 0, 0, 5);
        due.is("odds of one bank", y.odds(0, 1, 0), NONE);
        addChanges(y, 1, 1, 0, 1, 2, 3);
        odds(y, 0, 1, 1, 5);
        // the MEAN of all is 3.2: 1 lies as far below it on its own as 5 above, and farther
        addChanges(y, 1, 1, 5, 1, 2, 3);
        odds(y, 0, 1, 3, 5);
        // the MEAN of all is 0: -5 lies as far off as 5
        addChanges(y, 1, 1, -5, 1, 2, -3);
        odds(y, 0, 1, 2, 5);
        addChanges(y, 1, 1, 5, 5, 5, 5);
        odds(y, 0, 1, 1, 1);
        addChanges(y, 1, 1, 6, 9, 9, 9);
        odds(y, 0, 1, 1, 5);
        due.is("odds same", y.odds(0, 0, 0), NONE);
        due.is("odds month", y.odds(-1, 0, 0), NONE);
        due.is("odds month", y.odds(0, 12, 0), NONE);
        due.is("odds what", y.odds(0, 1, 2), NONE);
        due.is("odds what", y.odds(0, 1, -1), NONE);
        RiverWage z = new RiverWage();
        addChanges(z, 0, 0, 9, 9, 9, 9, 9, 9, 9);
        addChanges(z, 1, 7, 0, 0, 0, 0, 0, 0, 0);
        odds(z, 0, 1, 1, 1716);
        addChanges(z, 1, 14, 0);
        due.is("odds of 15", z.odds(0, 1, 0), NONE);
        due.is("odds of 15", z.odds(0, 1, 1), NONE);
        z.kitchen(14, 0, 1, 1, false);
        due.is("odds of 15, 8 on bank 0", z.odds(0, 1, 0), NONE);
        z.call(14, 0, 0, NONE);
        odds(z, 0, 1, 1, 1716);
    }

    private static void odds(RiverWage x, int b, int a, long above, long below) {
        due.is("odds above", x.odds(b, a, 0), above);
        due.is("odds below", x.odds(b, a, 1), below);
    }

    private static void promise17Beside() {
        RiverWage x = fourKitchens();
        due.throwsNone("none bound", () -> x.beside(0, 11, 0));
        x.floor(0, 6, 500, 0);
        due.isFraction("beside", () -> x.beside(0, 11, 0), () -> x.beside(0, 11, 1), 10, 1);
        due.throwsNone("by the floor in a", () -> x.beside(11, 0, 0));
        x.floor(1, 0, 999, 0);
        due.isFraction("floor of bank 0", () -> x.beside(0, 11, 0), () -> x.beside(0, 11, 1), 10, 1);
        x.floor(0, 6, 501, 0);
        due.throwsNone("none free", () -> x.beside(0, 11, 0));
        addChangesFrom0To11(x);
        x.kitchen(4, 0, 600, 1, false);
        due.isFraction("one free", () -> x.beside(0, 11, 0), () -> x.beside(0, 11, 1), 5, 1);
        x.call(0, 11, 11, 7);
        due.isFraction("halves", () -> x.beside(0, 11, 0), () -> x.beside(0, 11, 1), 15, 2);
        x.call(4, 11, 0, NONE);
        due.throwsNone("not counted", () -> x.beside(0, 11, 0));
        due.throwsNone("beside same", () -> x.beside(11, 11, 0));
        due.throwsNone("beside month", () -> x.beside(0, 12, 0));
        due.throwsNone("beside month", () -> x.beside(-1, 11, 0));
        x.call(4, 11, 1, 0);
        due.throwsNone("beside what", () -> x.beside(0, 11, 2));
        due.throwsNone("beside what", () -> x.beside(0, 11, -1));
    }

    private static void promise18Alike() {
        RiverWage x = new RiverWage();
        due.is("alike of none", x.alike(11, 0), 0);
        due.is("alike of none", x.alike(11, 1), NONE);
        due.is("alike of none", x.alike(11, 2), NONE);
        addChanges(x, 0, 0, 1, 2);
        addChanges(x, 1, 2, 3);
        // MONTH 1 to 2: 0, 0 against 1; 2 to 3 is silent; 4 to 5: 5 against 0
        x.call(0, 2, 21, 0);
        x.call(1, 2, 22, 0);
        x.call(2, 2, 24, 0);
        for (int k = 0; k < 3; k++) {
            x.call(k, 4, 10, 0);
            x.call(k, 5, k == 2 ? 10 : 15, 0);
        }
        alike(x, 1, 1, 15, 1);
        alike(x, 2, 2, 15, 1);
        alike(x, 3, 2, 15, 1);
        alike(x, 4, 2, 15, 1);
        alike(x, 5, 3, 50, 1);
        alike(x, 11, 3, 50, 1);
        x.call(0, 5, 14, 1);
        alike(x, 11, 3, 95, 2);
        due.is("alike 0", x.alike(0, 0), NONE);
        due.is("alike 12", x.alike(12, 0), NONE);
        due.is("alike what", x.alike(5, 3), NONE);
        due.is("alike what", x.alike(5, -1), NONE);
        RiverWage y = new RiverWage();
        addChanges(y, 0, 0, 3);
        addChanges(y, 1, 1, 3);
        alike(y, 1, 1, 0, 1);
    }

    private static void alike(RiverWage x, int month, long many, long above, long below) {
        due.is("alike up to " + month, x.alike(month, 0), many);
        due.is("alike above up to " + month, x.alike(month, 1), above);
        due.is("alike below up to " + month, x.alike(month, 2), below);
    }

    private static void promise19Apart() {
        RiverWage x = fourKitchens();
        apart(x, 0, 11, 2, 13, 1);
        apart(x, 0, 11, 0, 35, 1);
        apart(x, 0, 11, 99, 35 - 99 * 11, 1);
        apart(x, 0, 11, -99, 35 + 99 * 11, 1);
        apart(x, 11, 0, 2, -13, 1);
        addChangesFrom0To11(x);
        apart(x, 0, 11, 3, 1, 3);
        due.throwsNone("apart 100", () -> x.apart(0, 11, 100, 0));
        due.throwsNone("apart -100", () -> x.apart(0, 11, -100, 0));
        due.throwsNone("apart same", () -> x.apart(0, 0, 1, 0));
        due.throwsNone("apart month", () -> x.apart(0, 12, 1, 0));
        due.throwsNone("apart month", () -> x.apart(-1, 11, 1, 0));
        due.throwsNone("apart what", () -> x.apart(0, 11, 1, 2));
        due.throwsNone("apart what", () -> x.apart(0, 11, 1, -1));
        due.throwsNone("no river", () -> x.apart(0, 10, 1, 0));
    }

    private static void apart(RiverWage x, int b, int a, int d, long above, long below) {
        due.isFraction("apart by " + d, () -> x.apart(b, a, d, 0), () -> x.apart(b, a, d, 1), above, below);
    }
}
