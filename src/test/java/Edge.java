/** Numbers at and beyond the edges of a range, and KITCHENS for the cases. */
final class Edge {
    static final int NONE = RiverWage.NONE;

    private Edge() {
    }

    /** Right below the least and right above the most, and the least and the greatest int. */
    static int[] beyond(int least, int most) {
        return new int[] {least - 1, most + 1, Integer.MIN_VALUE, Integer.MAX_VALUE};
    }

    /** KITCHEN 0 on BANK 0 with a CHANGE of 10 and KITCHEN 1 on BANK 1 with one of 20, from MONTH 0 to 11. */
    static RiverWage twoKitchens() {
        RiverWage x = new RiverWage();
        x.kitchen(0, 0, 400, 5, true);
        x.kitchen(1, 1, 500, 7, true);
        hands(x, 0, 3, 4);
        hands(x, 1, 3, 5);
        return x;
    }

    /** Whole hands in MONTHS 0 and 11. */
    static void hands(RiverWage x, int kitchen, int before, int after) {
        x.call(kitchen, 0, before, 0);
        x.call(kitchen, 11, after, 0);
    }

    /** Some KITCHENS on a BANK, all with the same hands in MONTHS 0 and 11. */
    static void many(RiverWage x, int bank, int from, int size, int before, int after) {
        for (int k = from; k < from + size; k++) {
            x.kitchen(k, bank, 400, 5, false);
            hands(x, k, before, after);
        }
    }

    /** The hands that are the most there can be, by 10 TENTHS, against none: a CHANGE of 1980. */
    static void mostGrowth(RiverWage x, int bank, int from, int size) {
        for (int k = from; k < from + size; k++) {
            x.kitchen(k, bank, 999, 99, false);
            x.call(k, 0, 0, 0);
            x.call(k, 11, 99, 99);
        }
    }
}
