import java.util.Arrays;
import java.util.NoSuchElementException;

/**
 * A river between two wages: kitchens on two banks, rung up month by month, and what can be said of
 * the difference of the two differences. The words in capitals are those of the document.
 *
 * <p>All rows are made in the constructors and used again, so that a call makes (almost) no objects.
 */
public final class RiverWage {

    public static final int NONE = -1;

    private static final int KITCHENS = 24;
    private static final int MONTHS = 12;
    private static final int BANKS = 2;
    private static final int TEXTS = 4;
    private static final int MARKS = 4;

    private static final int MOST_WAGE = 999;
    private static final int MOST_HANDS = 99;
    private static final int MOST_TRADE = 99;
    private static final int MOST_APART = 99;
    private static final int MOST_TENTHS = 10;
    private static final int WHOLE_TENTHS = 10;
    private static final int MOST_HOURS = 999;
    private static final int MOST_TAKINGS = 99999;
    private static final int MOST_SEED = 9999;
    private static final int MOST_SEEDS = 20;
    private static final int MOST_CHOSEN = 12;
    private static final int MOST_DEALT = 14;
    private static final int MOST_LOTS = 9;
    private static final int MOST_SUM = 9999;
    private static final int MOST_N = 999;

    /** The lines of a LAW and the facts it may name, in the order of their numbers below. */
    private static final String LAW_LINES = "hire part shut opens ";
    private static final String LAW_FACTS = "whole half wage floor gap bank month trade draw was ";
    private static final int HIRE_LINE = 0;
    private static final int PART_LINE = 1;
    private static final int SHUT_LINE = 2;
    private static final int OPENS_LINE = 3;

    /** The lines of a WRITER's text and the facts it may name. */
    private static final String WRITER_LINES = "take from to tenths ";
    private static final String WRITER_FACTS = "bank wage most chosen silent shut bound hands number ";
    private static final int TAKE_LINE = 0;
    private static final int FROM_LINE = 1;
    private static final int TO_LINE = 2;
    private static final int TENTHS_LINE = 3;

    /** What stands behind a line's word: an E, when and an E, or else a NUMBER up to the form itself. */
    private static final int PLAIN_FORM = -1;
    private static final int WHEN_FORM = -2;
    private static final int[] LAW_FORMS = {PLAIN_FORM, PLAIN_FORM, WHEN_FORM, WHEN_FORM};
    private static final int[] WRITER_FORMS = {WHEN_FORM, MONTHS - 1, MONTHS - 1, MOST_TENTHS};

    private final Roster roster;
    private final Floors floors;
    private final Ledger calls;
    private final Ledger sheets;
    private final int[] hours;
    private final int[] takings;
    private int halfTenths;

    private final Sides sides;
    private final Fraction answer;
    private final Fraction extreme;

    private final Tokens tape;
    private final Reader lawReader;
    private final Reader writerReader;
    private final Script draft;
    private final Script[] laws;
    private final Script[] writers;
    private final int[] writerFacts;
    private final World ran;

    private final OtherRivers otherRivers;
    private final Mark[] marks;

    public RiverWage() {
        roster = new Roster();
        floors = new Floors();
        calls = new Ledger();
        sheets = new Ledger();
        hours = new int[KITCHENS * MONTHS];
        takings = new int[KITCHENS * MONTHS];
        halfTenths = 5;
        sides = new Sides();
        answer = new Fraction();
        extreme = new Fraction();
        tape = new Tokens();
        lawReader = new Reader(LAW_LINES, LAW_FACTS, LAW_FORMS);
        writerReader = new Reader(WRITER_LINES, WRITER_FACTS, WRITER_FORMS);
        draft = new Script(Tokens.MOST_SIGNS);
        laws = new Script[TEXTS];
        writers = new Script[TEXTS];
        for (int i = 0; i < TEXTS; i++) {
            laws[i] = new Script(0);
            writers[i] = new Script(0);
        }
        writerFacts = new int[9];
        ran = new World(roster, calls, floors);
        otherRivers = new OtherRivers();
        marks = new Mark[MARKS];
        for (int i = 0; i < MARKS; i++) {
            marks[i] = new Mark();
        }
    }

    // ---- what is told ----

    public boolean kitchen(int kitchen, int bank, int wage, int most, boolean chosen) {
        if (!isKitchen(kitchen) || !isBank(bank) || !within(wage, 0, MOST_WAGE) || !within(most, 0, MOST_HANDS)) {
            return false;
        }
        roster.put(kitchen, bank, wage, most, chosen);
        return true;
    }

    public boolean call(int kitchen, int month, int whole, int half) {
        if (!isToldKitchen(kitchen) || !isMonth(month)) {
            return false;
        }
        if (whole == NONE && half == NONE) {
            calls.shutDown(kitchen, month);
            return true;
        }
        if (!within(whole, 0, MOST_HANDS)) {
            return false;
        }
        if (half == NONE) {
            calls.silence(kitchen, month);
            return true;
        }
        if (!within(half, 0, MOST_HANDS)) {
            return false;
        }
        calls.tell(kitchen, month, whole, half);
        return true;
    }

    public boolean sheet(int kitchen, int month, int whole, int half) {
        if (!isToldKitchen(kitchen) || !isMonth(month)
                || !within(whole, 0, MOST_HANDS) || !within(half, 0, MOST_HANDS)) {
            return false;
        }
        sheets.tell(kitchen, month, whole, half);
        return true;
    }

    public boolean tenths(int n) {
        if (!within(n, 0, MOST_TENTHS)) {
            return false;
        }
        halfTenths = n;
        return true;
    }

    public boolean floor(int bank, int month, int floor, int trade) {
        if (!isBank(bank) || !isMonth(month)
                || !within(floor, 0, MOST_WAGE) || !within(trade, -MOST_TRADE, MOST_TRADE)) {
            return false;
        }
        floors.putFrom(bank, month, floor, trade);
        return true;
    }

    public int hands(int kitchen, int month) {
        if (!isToldKitchen(kitchen) || !isMonth(month) || calls.isSilent(kitchen, month)) {
            return NONE;
        }
        return calls.handsOf(kitchen, month, halfTenths);
    }

    // ---- the river ----

    public int bank(int bank, int b, int a, int what) throws NoSuchElementException {
        if (!isBank(bank) || !areTwoMonths(b, a) || !within(what, 0, 4)) {
            throw new NoSuchElementException();
        }
        int sum = 0;
        for (int k = 0; k < KITCHENS; k++) {
            if (roster.isOn(k, bank)) {
                sum += bankShare(k, b, a, what);
            }
        }
        return sum;
    }

    private int bankShare(int kitchen, int b, int a, int what) {
        boolean isCounted = calls.tellsBoth(kitchen, b, a);
        boolean shutBefore = calls.isShut(kitchen, b);
        boolean shutAfter = calls.isShut(kitchen, a);
        switch (what) {
            case 0:
                return isCounted ? 1 : 0;
            case 1:
                return isCounted ? 0 : 1;
            case 2:
                return shutAfter && !shutBefore ? 1 : 0;
            case 3:
                return shutBefore && !shutAfter ? 1 : 0;
            default:
                return isCounted ? calls.changeOf(kitchen, b, a, halfTenths) : 0;
        }
    }

    public long river(int b, int a, int without, int what) throws NoSuchElementException {
        boolean isWithAll = without == NONE;
        if (!areTwoMonths(b, a) || !isFractionPart(what) || (!isWithAll && !isToldKitchen(without))) {
            throw new NoSuchElementException();
        }
        fillByCalls(b, a);
        if (!isWithAll) {
            sides.leaveOut(without);
        }
        if (!sides.meansApart(answer)) {
            throw new NoSuchElementException();
        }
        return answer.pick(what);
    }

    public long part(int b, int a, int kitchen, int what) throws NoSuchElementException {
        if (!areTwoMonths(b, a) || !isToldKitchen(kitchen) || !isFractionPart(what)
                || !calls.tellsBoth(kitchen, b, a)) {
            throw new NoSuchElementException();
        }
        fillByCalls(b, a);
        boolean isThere = sides.meansApart(answer);
        sides.leaveOut(kitchen);
        if (!isThere || !sides.meansApart(extreme)) {
            throw new NoSuchElementException();
        }
        answer.subtract(extreme);
        return answer.pick(what);
    }

    /** The SIDES are the BANKS, with the KITCHENS COUNTED by CALLS. */
    private void fillByCalls(int b, int a) {
        sides.clear();
        for (int k = 0; k < KITCHENS; k++) {
            if (roster.isTold(k) && calls.tellsBoth(k, b, a)) {
                sides.put(k, roster.bankOf(k), calls.changeOf(k, b, a, halfTenths));
            }
        }
    }

    // ---- bounds and whom to ring ----

    public long bounds(int b, int a, int what) throws NoSuchElementException {
        if (!areTwoMonths(b, a) || !isExtremePart(what)) {
            throw new NoSuchElementException();
        }
        fillByBounds(b, a, isOfGreatest(what));
        if (!sides.meansApart(answer)) {
            throw new NoSuchElementException();
        }
        return answer.pick(partOfExtreme(what));
    }

    public int swings(int b, int a) {
        if (!areTwoMonths(b, a)) {
            return NONE;
        }
        fillByBounds(b, a, false);
        if (!sides.meansApart(answer)) {
            return NONE;
        }
        fillByBounds(b, a, true);
        if (!sides.meansApart(extreme)) {
            return NONE;
        }
        return answer.sign() <= 0 && extreme.sign() >= 0 ? 1 : 0;
    }

    public int next(int b, int a) {
        if (!areTwoMonths(b, a) || roster.sizeOf(0) == 0 || roster.sizeOf(1) == 0) {
            return NONE;
        }
        int best = NONE;
        long bestWidth = 0;
        long bestSize = 1;
        for (int k = 0; k < KITCHENS; k++) {
            if (roster.isTold(k) && !calls.tellsBoth(k, b, a)) {
                long width = (long) roster.mostOf(k) * silentAmong(k, b, a);
                long size = roster.sizeOf(roster.bankOf(k));
                if (best == NONE || width * bestSize > bestWidth * size) {
                    best = k;
                    bestWidth = width;
                    bestSize = size;
                }
            }
        }
        return best;
    }

    private int silentAmong(int kitchen, int b, int a) {
        return (calls.isSilent(kitchen, b) ? 1 : 0) + (calls.isSilent(kitchen, a) ? 1 : 0);
    }

    /** The RIVER is greatest where CHANGES of BANK 0 are greatest and those of BANK 1 least. */
    private void fillByBounds(int b, int a, boolean greatest) {
        sides.clear();
        for (int k = 0; k < KITCHENS; k++) {
            if (roster.isTold(k)) {
                boolean upwards = (roster.bankOf(k) == 0) == greatest;
                int change = boundHands(k, a, upwards) - boundHands(k, b, !upwards);
                sides.put(k, roster.bankOf(k), change);
            }
        }
    }

    private int boundHands(int kitchen, int month, boolean most) {
        if (!calls.isSilent(kitchen, month)) {
            return calls.handsOf(kitchen, month, halfTenths);
        }
        return most ? WHOLE_TENTHS * roster.mostOf(kitchen) : 0;
    }

    // ---- sheets, choosing, odds, beside ----

    public long sheets(int b, int a, boolean chosen, int what) throws NoSuchElementException {
        if (!areTwoMonths(b, a) || !isFractionPart(what)) {
            throw new NoSuchElementException();
        }
        sides.clear();
        for (int k = 0; k < KITCHENS; k++) {
            boolean isWanted = roster.isTold(k) && (!chosen || roster.isChosen(k));
            if (isWanted && sheets.tellsBoth(k, b, a)) {
                sides.put(k, roster.bankOf(k), sheets.changeOf(k, b, a, halfTenths));
            }
        }
        if (!sides.meansApart(answer)) {
            throw new NoSuchElementException();
        }
        return answer.pick(what);
    }

    public long choosing(int b, int a, int k, int what) throws NoSuchElementException {
        if (!areTwoMonths(b, a) || !within(k, 1, MOST_CHOSEN) || !isExtremePart(what)) {
            throw new NoSuchElementException();
        }
        fillByCalls(b, a);
        if (sides.sizeOf(0) < k || sides.sizeOf(1) < k) {
            throw new NoSuchElementException();
        }
        boolean greatest = isOfGreatest(what);
        answer.put(sides.sumOfChosen(0, k, greatest) - sides.sumOfChosen(1, k, !greatest), k);
        return answer.pick(partOfExtreme(what));
    }

    public long odds(int b, int a, int what) {
        if (!areTwoMonths(b, a) || !isFractionPart(what)) {
            return NONE;
        }
        fillByCalls(b, a);
        if (sides.isOneEmpty() || sides.sizeOf(0) + sides.sizeOf(1) > MOST_DEALT) {
            return NONE;
        }
        sides.dealt(answer);
        return answer.pick(what);
    }

    public long beside(int b, int a, int what) throws NoSuchElementException {
        if (!areTwoMonths(b, a) || !isFractionPart(what)) {
            throw new NoSuchElementException();
        }
        sides.clear();
        for (int k = 0; k < KITCHENS; k++) {
            if (roster.isOn(k, 0) && calls.tellsBoth(k, b, a)) {
                sides.put(k, isBelowFloor(k, a) ? 0 : 1, calls.changeOf(k, b, a, halfTenths));
            }
        }
        if (!sides.meansApart(answer)) {
            throw new NoSuchElementException();
        }
        return answer.pick(what);
    }

    private boolean isBelowFloor(int kitchen, int month) {
        return roster.wageOf(kitchen) < floors.floorOf(roster.bankOf(kitchen), month);
    }

    // ---- months before, and banks that went apart anyway ----

    public long alike(int month, int what) {
        if (!within(month, 1, MONTHS - 1) || !within(what, 0, 2)) {
            return NONE;
        }
        int found = 0;
        extreme.put(0, 1);
        for (int m = 1; m <= month; m++) {
            fillByCalls(m - 1, m);
            if (sides.meansApart(answer)) {
                found++;
                answer.dropSign();
                if (extreme.isBelow(answer)) {
                    extreme.copyOf(answer);
                }
            }
        }
        if (what == 0) {
            return found;
        }
        return found == 0 ? NONE : extreme.pick(what - 1);
    }

    public long apart(int b, int a, int d, int what) throws NoSuchElementException {
        if (!areTwoMonths(b, a) || !within(d, -MOST_APART, MOST_APART) || !isFractionPart(what)) {
            throw new NoSuchElementException();
        }
        fillByCalls(b, a);
        if (!sides.meansApart(answer)) {
            throw new NoSuchElementException();
        }
        extreme.put((long) d * (a - b), 1);
        answer.subtract(extreme);
        return answer.pick(what);
    }

    // ---- the tape, laws and worlds ----

    public int feed(long a, long b, long c) {
        tape.addBytes(a);
        tape.addBytes(b);
        tape.addBytes(c);
        return tape.size();
    }

    public int law(int law) {
        if (!isText(law)) {
            tape.empty();
            return NONE;
        }
        return readInto(lawReader, laws[law]);
    }

    /** What stood there is lost only if the TAPE has no FAULT. */
    private int readInto(Reader reader, Script script) {
        int fault = reader.readAll(tape, draft);
        tape.empty();
        if (fault == 0) {
            script.copyOf(draft);
        }
        return fault;
    }

    public int world(int law, int seed, int kitchen, int month) {
        if (!isText(law) || !within(seed, 0, MOST_SEED) || !isToldKitchen(kitchen) || !isMonth(month)) {
            return NONE;
        }
        ran.runUpTo(laws[law], seed, month);
        return ran.ledger().handsOf(kitchen, month, halfTenths);
    }

    public long fits(int law, int seeds) {
        if (!isText(law) || !within(seeds, 1, MOST_SEEDS)) {
            return NONE;
        }
        return farFromTold(laws[law], seeds);
    }

    public int best(int seeds) {
        if (!within(seeds, 1, MOST_SEEDS)) {
            return NONE;
        }
        int best = 0;
        long least = farFromTold(laws[0], seeds);
        for (int i = 1; i < TEXTS; i++) {
            long far = farFromTold(laws[i], seeds);
            if (far < least) {
                least = far;
                best = i;
            }
        }
        return best;
    }

    private long farFromTold(Script law, int seeds) {
        long far = 0;
        for (int seed = 0; seed < seeds; seed++) {
            ran.runUpTo(law, seed, MONTHS - 1);
            for (int k = 0; k < KITCHENS; k++) {
                if (roster.isTold(k)) {
                    far += farOfKitchen(k);
                }
            }
        }
        return far;
    }

    private long farOfKitchen(int kitchen) {
        long far = 0;
        for (int m = 1; m < MONTHS; m++) {
            if (!calls.isSilent(kitchen, m)) {
                int told = calls.handsOf(kitchen, m, halfTenths);
                far += Math.abs(ran.ledger().handsOf(kitchen, m, halfTenths) - told);
            }
        }
        return far;
    }

    public int rivers(int law, int seeds, int b, int a, int what) {
        if (!isText(law) || !within(seeds, 1, MOST_SEEDS) || !areTwoMonths(b, a) || !within(what, 0, 2)) {
            return NONE;
        }
        fillByCalls(b, a);
        if (sides.isOneEmpty()) {
            return NONE;
        }
        int found = 0;
        for (int seed = 0; seed < seeds; seed++) {
            ran.runUpTo(laws[law], seed, Math.max(b, a));
            fillByWorld(b, a);
            if (sides.meansApart(answer) && answer.sign() == what - 1) {
                found++;
            }
        }
        return found;
    }

    /** The KITCHENS COUNTED by CALLS, with the CHANGES of the WORLD that was run last. */
    private void fillByWorld(int b, int a) {
        sides.clear();
        for (int k = 0; k < KITCHENS; k++) {
            if (roster.isTold(k) && calls.tellsBoth(k, b, a)) {
                sides.put(k, roster.bankOf(k), ran.ledger().changeOf(k, b, a, halfTenths));
            }
        }
    }

    // ---- other rivers ----

    public int other(int sum, int n, boolean printed) {
        if (!within(sum, -MOST_SUM, MOST_SUM) || !within(n, 1, MOST_N) || otherRivers.isFull()) {
            return NONE;
        }
        return otherRivers.add(sum, n, printed);
    }

    public long others(boolean printed, int what) throws NoSuchElementException {
        if (!isFractionPart(what) || otherRivers.allKitchens(printed) == 0) {
            throw new NoSuchElementException();
        }
        answer.put(otherRivers.allSums(printed), otherRivers.allKitchens(printed));
        return answer.pick(what);
    }

    public int drawer(int n) {
        if (!within(n, 1, MOST_N) || otherRivers.allKitchens(true) == 0) {
            return NONE;
        }
        int far = Math.abs(otherRivers.allSums(true));
        return (far + n - 1) / n;
    }

    // ---- writers ----

    public int writer(int writer) {
        if (!isText(writer)) {
            tape.empty();
            return NONE;
        }
        return readInto(writerReader, writers[writer]);
    }

    public int takes(int writer, int kitchen) {
        if (!isText(writer) || !isToldKitchen(kitchen)) {
            return NONE;
        }
        Script text = writers[writer];
        return isTaken(text, kitchen, tenthsOf(text)) ? 1 : 0;
    }

    public long writes(int writer, int what) throws NoSuchElementException {
        if (!isText(writer) || !isFractionPart(what)) {
            throw new NoSuchElementException();
        }
        Script text = writers[writer];
        if (!isWritten(text, tenthsOf(text))) {
            throw new NoSuchElementException();
        }
        return answer.pick(what);
    }

    public long forks(int what) throws NoSuchElementException {
        if (!within(what, 0, 6)) {
            throw new NoSuchElementException();
        }
        int found = 0;
        int wanted = 0;
        for (int i = 0; i < TEXTS; i++) {
            for (int t = 0; t <= MOST_TENTHS; t++) {
                if (isWritten(writers[i], t)) {
                    wanted += isFork(what) ? 1 : 0;
                    keepExtreme(found == 0, what >= 5);
                    found++;
                }
            }
        }
        if (what <= 2) {
            return wanted;
        }
        if (found == 0) {
            throw new NoSuchElementException();
        }
        return extreme.pick((what - 3) % 2);
    }

    private boolean isFork(int what) {
        return what == 0 || (what == 1 && answer.sign() < 0) || (what == 2 && answer.sign() > 0);
    }

    private void keepExtreme(boolean isFirst, boolean greatest) {
        boolean isBeyond = greatest ? extreme.isBelow(answer) : answer.isBelow(extreme);
        if (isFirst || isBeyond) {
            extreme.copyOf(answer);
        }
    }

    private int fromOf(Script text) {
        return text.numberOr(FROM_LINE, 0);
    }

    private int toOf(Script text) {
        return text.numberOr(TO_LINE, MONTHS - 1);
    }

    private int tenthsOf(Script text) {
        return text.numberOr(TENTHS_LINE, halfTenths);
    }

    /** Whether a WRITER's RIVER is there, by some TENTHS; it is the answer then. */
    private boolean isWritten(Script text, int tenths) {
        int b = fromOf(text);
        int a = toOf(text);
        if (!areTwoMonths(b, a)) {
            return false;
        }
        sides.clear();
        for (int k = 0; k < KITCHENS; k++) {
            if (roster.isTold(k) && calls.tellsBoth(k, b, a) && isTaken(text, k, tenths)) {
                sides.put(k, roster.bankOf(k), calls.changeOf(k, b, a, tenths));
            }
        }
        return sides.meansApart(answer);
    }

    private boolean isTaken(Script text, int kitchen, int tenths) {
        if (!text.hasLine(TAKE_LINE)) {
            return true;
        }
        int from = fromOf(text);
        writerFacts[0] = roster.bankOf(kitchen);
        writerFacts[1] = roster.wageOf(kitchen);
        writerFacts[2] = roster.mostOf(kitchen);
        writerFacts[3] = roster.isChosen(kitchen) ? 1 : 0;
        writerFacts[4] = calls.silentMonths(kitchen);
        writerFacts[5] = calls.shutMonths(kitchen);
        writerFacts[6] = isBelowFloor(kitchen, toOf(text)) ? 1 : 0;
        writerFacts[7] = calls.handsOf(kitchen, from, tenths);
        writerFacts[8] = kitchen;
        return text.valueOf(TAKE_LINE, writerFacts) != 0;
    }

    // ---- books ----

    public boolean book(int kitchen, int month, int hours, int takings) {
        if (!isToldKitchen(kitchen) || !isMonth(month)
                || !within(hours, 0, MOST_HOURS) || !within(takings, 0, MOST_TAKINGS)) {
            return false;
        }
        this.hours[kitchen * MONTHS + month] = hours;
        this.takings[kitchen * MONTHS + month] = takings;
        return true;
    }

    public long booked(int kitchen, int month, int what) throws NoSuchElementException {
        if (!isToldKitchen(kitchen) || !isMonth(month) || !within(what, 0, 2)) {
            throw new NoSuchElementException();
        }
        if (what == 0) {
            return rateOf(kitchen, month);
        }
        if (calls.isSilent(kitchen, month)) {
            throw new NoSuchElementException();
        }
        return what == 1 ? paidOf(kitchen, month) : restOf(kitchen, month);
    }

    public long closes(int bank, int b, int a, int what) throws NoSuchElementException {
        if (!isBank(bank) || !areTwoMonths(b, a) || !within(what, 0, 5)) {
            throw new NoSuchElementException();
        }
        long sum = 0;
        for (int k = 0; k < KITCHENS; k++) {
            if (roster.isOn(k, bank) && calls.tellsBoth(k, b, a)) {
                sum += closing(k, b, a, what);
            }
        }
        return sum;
    }

    private long closing(int kitchen, int b, int a, int what) {
        long handsAfter = calls.handsOf(kitchen, a, halfTenths);
        switch (what) {
            case 0:
                return paidOf(kitchen, a) - paidOf(kitchen, b);
            case 1:
                return (handsAfter - calls.handsOf(kitchen, b, halfTenths))
                        * hoursOf(kitchen, b) * rateOf(kitchen, b);
            case 2:
                return handsAfter * (hoursOf(kitchen, a) - hoursOf(kitchen, b)) * rateOf(kitchen, b);
            case 3:
                return handsAfter * hoursOf(kitchen, a) * (rateOf(kitchen, a) - rateOf(kitchen, b));
            case 4:
                return tenTakings(kitchen, a) - tenTakings(kitchen, b);
            default:
                return restOf(kitchen, a) - restOf(kitchen, b);
        }
    }

    private long hoursOf(int kitchen, int month) {
        return hours[kitchen * MONTHS + month];
    }

    private long tenTakings(int kitchen, int month) {
        return 10L * takings[kitchen * MONTHS + month];
    }

    private long rateOf(int kitchen, int month) {
        return Math.max(roster.wageOf(kitchen), floors.floorOf(roster.bankOf(kitchen), month));
    }

    private long paidOf(int kitchen, int month) {
        return calls.handsOf(kitchen, month, halfTenths) * hoursOf(kitchen, month) * rateOf(kitchen, month);
    }

    private long restOf(int kitchen, int month) {
        return tenTakings(kitchen, month) - paidOf(kitchen, month);
    }

    // ---- lots ----

    public long lots(int b, int a, int k, int what) {
        if (!areTwoMonths(b, a) || !within(k, 1, MOST_LOTS) || !isFractionPart(what)) {
            return NONE;
        }
        if (k > mostDrawn(b, a)) {
            return NONE;
        }
        sides.drawn(k, answer);
        return answer.pick(what);
    }

    public int needed(int b, int a, int p) {
        if (!areTwoMonths(b, a) || !within(p, 1, 100)) {
            return NONE;
        }
        int most = mostDrawn(b, a);
        for (int k = 1; k <= most; k++) {
            sides.drawn(k, answer);
            if (answer.isAtLeast(p, 100)) {
                return k;
            }
        }
        return NONE;
    }

    /** Fills the SIDES; the greatest k that can be drawn from them, 0 if LOTS can't be drawn at all. */
    private int mostDrawn(int b, int a) {
        fillByCalls(b, a);
        if (sides.sizeOf(0) > MOST_LOTS || sides.sizeOf(1) > MOST_LOTS) {
            return 0;
        }
        return Math.min(sides.sizeOf(0), sides.sizeOf(1));
    }

    // ---- slips and mixed ----

    public int slips(int month, int what) {
        if (!isMonth(month) || !within(what, 0, 2)) {
            return NONE;
        }
        int both = 0;
        int unlike = 0;
        int greatest = 0;
        for (int k = 0; k < KITCHENS; k++) {
            if (roster.isTold(k) && !calls.isSilent(k, month) && !sheets.isSilent(k, month)) {
                int slip = Math.abs(calls.handsOf(k, month, halfTenths) - sheets.handsOf(k, month, halfTenths));
                both++;
                unlike += slip != 0 ? 1 : 0;
                greatest = Math.max(greatest, slip);
            }
        }
        if (what == 0) {
            return both;
        }
        return what == 1 ? unlike : greatest;
    }

    public long mixed(int b, int a, int what) throws NoSuchElementException {
        if (!areTwoMonths(b, a) || !isExtremePart(what)) {
            throw new NoSuchElementException();
        }
        boolean greatest = isOfGreatest(what);
        sides.clear();
        for (int k = 0; k < KITCHENS; k++) {
            if (roster.isTold(k) && calls.tellsBoth(k, b, a)) {
                boolean upwards = (roster.bankOf(k) == 0) == greatest;
                sides.put(k, roster.bankOf(k), mixedChange(k, b, a, upwards));
            }
        }
        if (!sides.meansApart(answer)) {
            throw new NoSuchElementException();
        }
        return answer.pick(partOfExtreme(what));
    }

    private int mixedChange(int kitchen, int b, int a, boolean upwards) {
        int byCalls = calls.changeOf(kitchen, b, a, halfTenths);
        if (!sheets.tellsBoth(kitchen, b, a)) {
            return byCalls;
        }
        int bySheets = sheets.changeOf(kitchen, b, a, halfTenths);
        return upwards ? Math.max(byCalls, bySheets) : Math.min(byCalls, bySheets);
    }

    // ---- where next, marks, counts ----

    public int where(int what) {
        int best = NONE;
        int greatest = 0;
        for (int m = 1; m < MONTHS; m++) {
            int weight = weightOf(m);
            if (weight > greatest) {
                greatest = weight;
                best = m;
            }
        }
        if (best == NONE || !within(what, 0, 1)) {
            return NONE;
        }
        return what == 0 ? best : greatest;
    }

    private int weightOf(int month) {
        int ahead = floors.growthOf(0, month) - floors.growthOf(1, month);
        if (ahead == 0) {
            return 0;
        }
        int first = ahead > 0 ? 0 : 1;
        int below = 0;
        int beyond = 0;
        for (int k = 0; k < KITCHENS; k++) {
            if (roster.isTold(k) && calls.tellsBoth(k, month - 1, month)) {
                if (roster.bankOf(k) != first) {
                    beyond++;
                } else if (isBelowFloor(k, month)) {
                    below++;
                }
            }
        }
        return below * beyond;
    }

    public boolean mark(int mark, boolean back) {
        if (!within(mark, 0, MARKS - 1)) {
            return false;
        }
        if (!back) {
            marks[mark].lay(calls, sheets, otherRivers.size());
            return true;
        }
        if (!marks[mark].isLaid() || otherRivers.size() < marks[mark].otherRivers()) {
            return false;
        }
        marks[mark].bringBack(calls, sheets);
        otherRivers.cutTo(marks[mark].otherRivers());
        return true;
    }

    public int count(int what) {
        switch (what) {
            case 0:
                return roster.sizeOf(0) + roster.sizeOf(1);
            case 1:
                return calls.toldCells();
            case 2:
                return sheets.toldCells();
            case 3:
                return otherRivers.size();
            case 4:
                return otherRivers.printedSize();
            case 5:
                return halfTenths;
            case 6:
                return tape.size();
            case 7:
                return roster.chosenSize();
            default:
                return NONE;
        }
    }

    // ---- what may stand in a call ----

    private static boolean within(int n, int least, int most) {
        return n >= least && n <= most;
    }

    private static boolean isKitchen(int kitchen) {
        return within(kitchen, 0, KITCHENS - 1);
    }

    private boolean isToldKitchen(int kitchen) {
        return isKitchen(kitchen) && roster.isTold(kitchen);
    }

    private static boolean isBank(int bank) {
        return within(bank, 0, BANKS - 1);
    }

    private static boolean isMonth(int month) {
        return within(month, 0, MONTHS - 1);
    }

    private static boolean areTwoMonths(int b, int a) {
        return isMonth(b) && isMonth(a) && b != a;
    }

    private static boolean isText(int number) {
        return within(number, 0, TEXTS - 1);
    }

    private static boolean isFractionPart(int what) {
        return within(what, 0, 1);
    }

    private static boolean isExtremePart(int what) {
        return within(what, 0, 3);
    }

    private static boolean isOfGreatest(int what) {
        return what >= 2;
    }

    private static int partOfExtreme(int what) {
        return what % 2;
    }

    /** The KITCHENS told. */
    private static final class Roster {
        private final boolean[] told = new boolean[KITCHENS];
        private final boolean[] chosen = new boolean[KITCHENS];
        private final int[] banks = new int[KITCHENS];
        private final int[] wages = new int[KITCHENS];
        private final int[] mosts = new int[KITCHENS];

        void put(int kitchen, int bank, int wage, int most, boolean isChosen) {
            told[kitchen] = true;
            chosen[kitchen] = isChosen;
            banks[kitchen] = bank;
            wages[kitchen] = wage;
            mosts[kitchen] = most;
        }

        boolean isTold(int kitchen) {
            return told[kitchen];
        }

        boolean isOn(int kitchen, int bank) {
            return told[kitchen] && banks[kitchen] == bank;
        }

        boolean isChosen(int kitchen) {
            return chosen[kitchen];
        }

        int bankOf(int kitchen) {
            return banks[kitchen];
        }

        int wageOf(int kitchen) {
            return wages[kitchen];
        }

        int mostOf(int kitchen) {
            return mosts[kitchen];
        }

        int sizeOf(int bank) {
            int size = 0;
            for (int k = 0; k < KITCHENS; k++) {
                size += isOn(k, bank) ? 1 : 0;
            }
            return size;
        }

        int chosenSize() {
            int size = 0;
            for (int k = 0; k < KITCHENS; k++) {
                size += told[k] && chosen[k] ? 1 : 0;
            }
            return size;
        }
    }

    /** FLOOR and TRADE of each BANK in each MONTH. */
    private static final class Floors {
        private final int[] floors = new int[BANKS * MONTHS];
        private final int[] trades = new int[BANKS * MONTHS];

        void putFrom(int bank, int month, int floor, int trade) {
            for (int m = month; m < MONTHS; m++) {
                floors[bank * MONTHS + m] = floor;
                trades[bank * MONTHS + m] = trade;
            }
        }

        int floorOf(int bank, int month) {
            return floors[bank * MONTHS + month];
        }

        int tradeOf(int bank, int month) {
            return trades[bank * MONTHS + month];
        }

        /** By how much the FLOOR grew from the MONTH before; it may be below 0. */
        int growthOf(int bank, int month) {
            return month < 1 ? 0 : floorOf(bank, month) - floorOf(bank, month - 1);
        }
    }

    /** What is told of each KITCHEN in each MONTH: hands, that it is SHUT, or nothing. */
    private static final class Ledger {
        private static final int SHUT = -1;
        private static final int SILENT = -2;
        private static final int BASE = 100;

        private final int[] cells = new int[KITCHENS * MONTHS];

        Ledger() {
            Arrays.fill(cells, SILENT);
        }

        void tell(int kitchen, int month, int whole, int half) {
            cells[kitchen * MONTHS + month] = whole * BASE + half;
        }

        void shutDown(int kitchen, int month) {
            cells[kitchen * MONTHS + month] = SHUT;
        }

        void silence(int kitchen, int month) {
            cells[kitchen * MONTHS + month] = SILENT;
        }

        boolean isSilent(int kitchen, int month) {
            return cells[kitchen * MONTHS + month] == SILENT;
        }

        boolean isShut(int kitchen, int month) {
            return cells[kitchen * MONTHS + month] == SHUT;
        }

        boolean tellsBoth(int kitchen, int b, int a) {
            return !isSilent(kitchen, b) && !isSilent(kitchen, a);
        }

        int wholeOf(int kitchen, int month) {
            return Math.max(0, cells[kitchen * MONTHS + month]) / BASE;
        }

        int halfOf(int kitchen, int month) {
            return Math.max(0, cells[kitchen * MONTHS + month]) % BASE;
        }

        int handsOf(int kitchen, int month, int tenths) {
            return wholeOf(kitchen, month) * WHOLE_TENTHS + halfOf(kitchen, month) * tenths;
        }

        int changeOf(int kitchen, int b, int a, int tenths) {
            return handsOf(kitchen, a, tenths) - handsOf(kitchen, b, tenths);
        }

        int silentMonths(int kitchen) {
            int months = 0;
            for (int m = 0; m < MONTHS; m++) {
                months += isSilent(kitchen, m) ? 1 : 0;
            }
            return months;
        }

        int shutMonths(int kitchen) {
            int months = 0;
            for (int m = 0; m < MONTHS; m++) {
                months += isShut(kitchen, m) ? 1 : 0;
            }
            return months;
        }

        int toldCells() {
            int told = 0;
            for (int i = 0; i < cells.length; i++) {
                told += cells[i] != SILENT ? 1 : 0;
            }
            return told;
        }

        void copyOf(Ledger from) {
            System.arraycopy(from.cells, 0, cells, 0, cells.length);
        }
    }

    /** A fraction in lowest terms, whose below is above 0. */
    private static final class Fraction {
        /** More steps than Euclid's way takes with any two longs. */
        private static final int MOST_STEPS = 100;

        private long above = 0;
        private long below = 1;

        void put(long over, long under) {
            long common = commonOf(Math.abs(over), under);
            if (under <= 0 || common <= 0) {
                return;
            }
            above = over / common;
            below = under / common;
        }

        private static long commonOf(long one, long two) {
            long x = one;
            long y = two;
            for (int i = 0; i < MOST_STEPS && y != 0; i++) {
                long rest = x % y;
                x = y;
                y = rest;
            }
            return x;
        }

        void copyOf(Fraction from) {
            above = from.above;
            below = from.below;
        }

        void subtract(Fraction less) {
            put(above * less.below - less.above * below, below * less.below);
        }

        void dropSign() {
            above = Math.abs(above);
        }

        int sign() {
            return Long.compare(above, 0);
        }

        boolean isBelow(Fraction than) {
            return above * than.below < than.above * below;
        }

        boolean isAtLeast(long over, long under) {
            return above * under >= over * below;
        }

        long pick(int what) {
            return what == 0 ? above : below;
        }
    }

    /** KITCHENS on two SIDES (mostly the BANKS) with a CHANGE each; filled anew for each question. */
    private static final class Sides {
        private final int[] sideOf = new int[KITCHENS];
        private final int[] changes = new int[KITCHENS];
        private final int[] row = new int[KITCHENS];
        private final int[] firstSums = new int[1 << MOST_LOTS];
        private final int[] secondSums = new int[1 << MOST_LOTS];

        void clear() {
            Arrays.fill(sideOf, NONE);
        }

        void put(int kitchen, int side, int change) {
            sideOf[kitchen] = side;
            changes[kitchen] = change;
        }

        void leaveOut(int kitchen) {
            sideOf[kitchen] = NONE;
        }

        int sizeOf(int side) {
            int size = 0;
            for (int k = 0; k < KITCHENS; k++) {
                size += sideOf[k] == side ? 1 : 0;
            }
            return size;
        }

        int sumOf(int side) {
            int sum = 0;
            for (int k = 0; k < KITCHENS; k++) {
                sum += sideOf[k] == side ? changes[k] : 0;
            }
            return sum;
        }

        boolean isOneEmpty() {
            return sizeOf(0) == 0 || sizeOf(1) == 0;
        }

        /** The MEAN of SIDE 0 less that of SIDE 1; false if one of them is empty. */
        boolean meansApart(Fraction into) {
            long first = sizeOf(0);
            long second = sizeOf(1);
            if (first == 0 || second == 0) {
                return false;
            }
            into.put(sumOf(0) * second - sumOf(1) * first, first * second);
            return true;
        }

        /** Puts the CHANGES of one SIDE into the row; how many there are. */
        private int gather(int side) {
            int size = 0;
            for (int k = 0; k < KITCHENS; k++) {
                if (sideOf[k] == side) {
                    row[size] = changes[k];
                    size++;
                }
            }
            return size;
        }

        /** The sum of the k least, or greatest, CHANGES of a SIDE that has as many. */
        long sumOfChosen(int side, int k, boolean greatest) {
            int size = gather(side);
            sortRow(size);
            long sum = 0;
            for (int i = 0; i < k && i < size; i++) {
                sum += row[greatest ? size - 1 - i : i];
            }
            return sum;
        }

        private void sortRow(int size) {
            for (int i = 1; i < size; i++) {
                int change = row[i];
                int at = i;
                while (at > 0 && row[at - 1] > change) {
                    row[at] = row[at - 1];
                    at--;
                }
                row[at] = change;
            }
        }

        /**
         * ODDS. With s the sum of those dealt to SIDE 0 the RIVER is (s * all - total * first) by
         * first * second, and the divisor is the same for all ways.
         */
        void dealt(Fraction into) {
            int first = sizeOf(0);
            int all = first + sizeOf(1);
            int total = sumOf(0) + sumOf(1);
            int own = Math.abs(sumOf(0) * all - total * first);
            gatherBoth();
            long ways = 0;
            long asFar = 0;
            for (int dealing = 0; dealing < 1 << Math.min(all, MOST_DEALT); dealing++) {
                if (Integer.bitCount(dealing) == first) {
                    ways++;
                    asFar += Math.abs(sumOfRow(dealing) * all - total * first) >= own ? 1 : 0;
                }
            }
            into.put(asFar, ways);
        }

        private void gatherBoth() {
            int size = 0;
            for (int k = 0; k < KITCHENS; k++) {
                if (sideOf[k] != NONE) {
                    row[size] = changes[k];
                    size++;
                }
            }
        }

        private int sumOfRow(int members) {
            int sum = 0;
            for (int i = 0; i < MOST_DEALT; i++) {
                sum += (members >> i & 1) != 0 ? row[i] : 0;
            }
            return sum;
        }

        /** LOTS; both draw k, so sums can be compared in place of MEANS. */
        void drawn(int k, Fraction into) {
            int sign = Long.compare((long) sumOf(0) * sizeOf(1), (long) sumOf(1) * sizeOf(0));
            int firstWays = sumsOfDraws(0, k, firstSums);
            int secondWays = sumsOfDraws(1, k, secondSums);
            long alike = 0;
            for (int i = 0; i < firstWays; i++) {
                for (int j = 0; j < secondWays; j++) {
                    alike += Integer.compare(firstSums[i], secondSums[j]) == sign ? 1 : 0;
                }
            }
            into.put(alike, (long) firstWays * secondWays);
        }

        private int sumsOfDraws(int side, int k, int[] sums) {
            int size = Math.min(gather(side), MOST_LOTS);
            int ways = 0;
            for (int draw = 0; draw < 1 << size; draw++) {
                if (Integer.bitCount(draw) == k) {
                    sums[ways] = sumOfRow(draw);
                    ways++;
                }
            }
            return ways;
        }
    }

    /** The TAPE, and the TOKEN of it that stands to be read. */
    private static final class Tokens {
        static final int MOST_SIGNS = 1000;
        static final int NO_TOKEN = 0;
        static final int WORD = 1;
        static final int NUMBER = 2;
        static final int SIGN = 3;
        static final int END = 4;

        private static final int MOST_LETTERS = 8;
        private static final int MOST_DIGITS = 4;
        private static final String SIGNS = "()<=+-*;";

        private final char[] signs = new char[MOST_SIGNS];
        private int length = 0;
        private int start = 0;
        private int end = 0;
        private int kind = END;
        private int value = 0;

        void addBytes(long eight) {
            for (int shift = 56; shift >= 0; shift -= 8) {
                int sign = (int) (eight >>> shift & 255);
                boolean isSign = sign == 10 || within(sign, 32, 126);
                if (isSign && length < MOST_SIGNS) {
                    signs[length] = (char) sign;
                    length++;
                }
            }
        }

        int size() {
            return length;
        }

        void empty() {
            length = 0;
        }

        void rewind() {
            end = 0;
        }

        int place() {
            return start;
        }

        int kindNow() {
            return kind;
        }

        /** Of a NUMBER how much it is, of a SIGN its code. */
        int valueNow() {
            return value;
        }

        boolean isSign(char sign) {
            return kind == SIGN && value == sign;
        }

        void advance() {
            start = end;
            while (start < length && isBlank(signs[start])) {
                start++;
            }
            end = start;
            if (start >= length) {
                kind = END;
            } else if (isLetter(signs[start])) {
                takeWord();
            } else if (isDigit(signs[start])) {
                takeNumber();
            } else {
                end++;
                value = signs[start];
                kind = SIGNS.indexOf(signs[start]) >= 0 ? SIGN : NO_TOKEN;
            }
        }

        private void takeWord() {
            while (end < length && isLetter(signs[end])) {
                end++;
            }
            kind = end - start <= MOST_LETTERS ? WORD : NO_TOKEN;
        }

        private void takeNumber() {
            value = 0;
            while (end < length && isDigit(signs[end])) {
                value = value * 10 + (signs[end] - '0');
                end++;
            }
            kind = end - start <= MOST_DIGITS ? NUMBER : NO_TOKEN;
        }

        /** The number of this WORD in a list in which a blank stands behind each; NONE if it isn't there. */
        int wordAmong(String list) {
            int number = 0;
            int at = start;
            boolean isSame = kind == WORD;
            for (int i = 0; i < list.length(); i++) {
                char sign = list.charAt(i);
                if (sign != ' ') {
                    isSame = isSame && at < end && signs[at] == sign;
                    at++;
                } else if (isSame && at == end) {
                    return number;
                } else {
                    number++;
                    at = start;
                    isSame = kind == WORD;
                }
            }
            return NONE;
        }

        private static boolean isBlank(char sign) {
            return sign == ' ' || sign == '\n';
        }

        private static boolean isLetter(char sign) {
            return sign >= 'a' && sign <= 'z';
        }

        private static boolean isDigit(char sign) {
            return sign >= '0' && sign <= '9';
        }
    }

    /** A text that was read: of each of its four lines the E (behind one another in one code), or the NUMBER. */
    private static final class Script {
        static final int LINES = 4;

        /** Code below 0 is an operator, up to 9999 a NUMBER, from here on a fact. */
        static final int FACTS = 10000;

        static final int AND = 1;
        static final int OR = 2;
        static final int LESS = 3;
        static final int EQUAL = 4;
        static final int PLUS = 5;
        static final int MINUS = 6;
        static final int TIMES = 7;
        static final int NOT = 8;

        /** Six levels with four values that wait in each would still fit. */
        private static final int MOST_VALUES = 40;

        private int[] code;
        private int length = 0;
        private final boolean[] isThere = new boolean[LINES];
        private final int[] starts = new int[LINES];
        private final int[] ends = new int[LINES];
        private final int[] numbers = new int[LINES];
        private final int[] values = new int[MOST_VALUES];

        Script(int room) {
            code = new int[room];
        }

        void clear() {
            length = 0;
            for (int i = 0; i < LINES; i++) {
                isThere[i] = false;
            }
        }

        void copyOf(Script from) {
            code = Arrays.copyOf(from.code, from.length);
            length = from.length;
            for (int i = 0; i < LINES; i++) {
                isThere[i] = from.isThere[i];
                starts[i] = from.starts[i];
                ends[i] = from.ends[i];
                numbers[i] = from.numbers[i];
            }
        }

        boolean hasLine(int line) {
            return isThere[line];
        }

        void beginLine(int line) {
            isThere[line] = true;
            starts[line] = length;
            ends[line] = length;
        }

        void putNumber(int line, int number) {
            numbers[line] = number;
        }

        void emit(int line, int word) {
            if (length < code.length) {
                code[length] = word;
                length++;
                ends[line] = length;
            }
        }

        int numberOr(int line, int without) {
            return isThere[line] ? numbers[line] : without;
        }

        int valueOr(int line, int[] facts, int without) {
            return isThere[line] ? valueOf(line, facts) : without;
        }

        int valueOf(int line, int[] facts) {
            int size = 0;
            for (int i = starts[line]; i < ends[line] && i < code.length; i++) {
                int word = code[i];
                if (word < 0) {
                    size = operate(-word, size);
                } else if (size < MOST_VALUES) {
                    values[size] = operandOf(word, facts);
                    size++;
                }
            }
            return values[0];
        }

        private static int operandOf(int word, int[] facts) {
            int fact = word - FACTS;
            if (fact < 0) {
                return word;
            }
            return fact < facts.length ? facts[fact] : 0;
        }

        private int operate(int operator, int size) {
            if (operator == NOT) {
                if (size >= 1) {
                    values[size - 1] = values[size - 1] == 0 ? 1 : 0;
                }
                return size;
            }
            if (size < 2) {
                return size;
            }
            values[size - 2] = joined(operator, values[size - 2], values[size - 1]);
            return size - 1;
        }

        private static int joined(int operator, int x, int y) {
            switch (operator) {
                case AND:
                    return x != 0 && y != 0 ? 1 : 0;
                case OR:
                    return x != 0 || y != 0 ? 1 : 0;
                case LESS:
                    return x < y ? 1 : 0;
                case EQUAL:
                    return x == y ? 1 : 0;
                case PLUS:
                    return x + y;
                case MINUS:
                    return x - y;
                default:
                    return x * y;
            }
        }
    }

    /**
     * Reads a text token by token. Operators that wait lie on a stack, with each open not and ( among
     * them, so that how deep a PART lies is how many of these there are.
     */
    private static final class Reader {
        private static final int FINE = 0;
        private static final int WRONG = 1;
        private static final int TWICE = 3;
        private static final int TOO_MUCH = 4;
        private static final int TOO_DEEP = 5;
        private static final int PLACE_UNIT = 16;
        private static final int MOST_DEPTH = 5;

        /** What is to come. */
        private static final int LINE = 0;
        private static final int WHEN = 1;
        private static final int OPERAND = 2;
        private static final int OPERATOR = 3;
        private static final int NUMERAL = 4;
        private static final int CLOSING = 5;

        private static final int OPEN = 9;
        private static final int SUM_RANK = 3;
        private static final int TEST_RANK = 2;
        /** How tight the operators of Script bind; not and ( wait for what stands behind them. */
        private static final int[] RANKS = {0, 1, 1, 2, 2, 3, 3, 4, 0, 0};
        private static final int MOST_WAITING = 40;

        private final String lineWords;
        private final String factWords;
        private final int[] forms;
        private final int[] waiting = new int[MOST_WAITING];
        private int waits = 0;
        private int depth = 0;
        private int opened = 0;
        private int expected = LINE;
        private int line = 0;

        Reader(String lineWords, String factWords, int[] forms) {
            this.lineWords = lineWords;
            this.factWords = factWords;
            this.forms = forms;
        }

        /** The FAULT of the text, or 0; the script is only of use without one. */
        int readAll(Tokens tokens, Script script) {
            script.clear();
            tokens.rewind();
            expected = LINE;
            for (int i = 0; i <= Tokens.MOST_SIGNS; i++) {
                tokens.advance();
                int kind = readToken(tokens, script);
                if (kind != FINE) {
                    return kind + PLACE_UNIT * tokens.place();
                }
                if (tokens.kindNow() == Tokens.END) {
                    return FINE;
                }
            }
            return FINE;
        }

        private int readToken(Tokens tokens, Script script) {
            switch (expected) {
                case LINE:
                    return readLineWord(tokens, script);
                case WHEN:
                    expected = OPERAND;
                    return tokens.wordAmong("when ") == 0 ? FINE : WRONG;
                case OPERAND:
                    return readOperand(tokens, script);
                case OPERATOR:
                    return readOperator(tokens, script);
                case NUMERAL:
                    return readNumeral(tokens, script);
                default:
                    expected = LINE;
                    return tokens.isSign(';') ? FINE : WRONG;
            }
        }

        private int readLineWord(Tokens tokens, Script script) {
            if (tokens.kindNow() == Tokens.END) {
                return FINE;
            }
            int word = tokens.wordAmong(lineWords);
            if (word < 0 || word >= forms.length) {
                return WRONG;
            }
            if (script.hasLine(word)) {
                return TWICE;
            }
            line = word;
            script.beginLine(word);
            waits = 0;
            depth = 0;
            opened = 0;
            if (forms[word] == PLAIN_FORM) {
                expected = OPERAND;
            } else {
                expected = forms[word] == WHEN_FORM ? WHEN : NUMERAL;
            }
            return FINE;
        }

        private int readNumeral(Tokens tokens, Script script) {
            if (tokens.kindNow() != Tokens.NUMBER) {
                return WRONG;
            }
            if (tokens.valueNow() > forms[line]) {
                return TOO_MUCH;
            }
            script.putNumber(line, tokens.valueNow());
            expected = CLOSING;
            return FINE;
        }

        private int readOperand(Tokens tokens, Script script) {
            boolean isNot = tokens.wordAmong("not ") == 0;
            boolean isOpen = tokens.isSign('(');
            boolean isNumber = tokens.kindNow() == Tokens.NUMBER;
            int fact = tokens.wordAmong(factWords);
            if (!isNot && !isOpen && !isNumber && fact == NONE) {
                return WRONG;
            }
            if (depth >= MOST_DEPTH) {
                return TOO_DEEP;
            }
            if (isNot || isOpen) {
                depth++;
                opened += isOpen ? 1 : 0;
                push(isNot ? Script.NOT : OPEN);
                return FINE;
            }
            script.emit(line, isNumber ? tokens.valueNow() : Script.FACTS + fact);
            endPart(script);
            return FINE;
        }

        /** A PART is whole: so is each not right before it. */
        private void endPart(Script script) {
            while (waits > 0 && waiting[waits - 1] == Script.NOT) {
                script.emit(line, -Script.NOT);
                waits--;
                depth--;
            }
            expected = OPERATOR;
        }

        private int readOperator(Tokens tokens, Script script) {
            if (tokens.isSign(';')) {
                return readEnd(script);
            }
            if (tokens.isSign(')')) {
                return readClose(script);
            }
            int operator = operatorOf(tokens);
            if (operator == NONE) {
                return WRONG;
            }
            int rank = RANKS[operator];
            if (rank == TEST_RANK) {
                release(SUM_RANK, script);
                if (topRank() == TEST_RANK) {
                    return WRONG;
                }
            }
            release(rank, script);
            push(operator);
            expected = OPERAND;
            return FINE;
        }

        private static int operatorOf(Tokens tokens) {
            int word = tokens.wordAmong("and or ");
            if (word != NONE) {
                return word == 0 ? Script.AND : Script.OR;
            }
            if (tokens.kindNow() != Tokens.SIGN) {
                return NONE;
            }
            switch (tokens.valueNow()) {
                case '<':
                    return Script.LESS;
                case '=':
                    return Script.EQUAL;
                case '+':
                    return Script.PLUS;
                case '-':
                    return Script.MINUS;
                case '*':
                    return Script.TIMES;
                default:
                    return NONE;
            }
        }

        private int readEnd(Script script) {
            if (opened > 0) {
                return WRONG;
            }
            release(1, script);
            expected = LINE;
            return FINE;
        }

        private int readClose(Script script) {
            if (opened == 0) {
                return WRONG;
            }
            release(1, script);
            waits--;
            depth--;
            opened--;
            endPart(script);
            return FINE;
        }

        private void push(int operator) {
            if (waits < MOST_WAITING) {
                waiting[waits] = operator;
                waits++;
            }
        }

        private int topRank() {
            return waits > 0 ? RANKS[waiting[waits - 1]] : 0;
        }

        /** What binds as tight as that, or tighter, has both its sides now. */
        private void release(int rank, Script script) {
            while (waits > 0 && topRank() >= rank) {
                script.emit(line, -waiting[waits - 1]);
                waits--;
            }
        }
    }

    /** A WORLD of a LAW, run from what CALLS tell of MONTH 0. */
    private static final class World {
        private static final long FACTOR = 1103515245L;
        private static final long STEP = 12345L;
        private static final long MODULUS = 2147483648L;
        private static final long DRAW_UNIT = 65536L;
        private static final long DRAWS = 10L;

        private final Roster roster;
        private final Ledger calls;
        private final Floors floors;
        private final Ledger cells = new Ledger();
        private final int[] facts = new int[10];
        private long g = 0;

        World(Roster roster, Ledger calls, Floors floors) {
            this.roster = roster;
            this.calls = calls;
            this.floors = floors;
        }

        /** What was run last; only of KITCHENS told, and only up to the MONTH it was run to. */
        Ledger ledger() {
            return cells;
        }

        void runUpTo(Script law, int seed, int last) {
            g = seed;
            cells.copyOf(calls);
            for (int k = 0; k < KITCHENS; k++) {
                if (cells.isSilent(k, 0)) {
                    cells.tell(k, 0, 0, 0);
                }
            }
            for (int m = 1; m <= last && m < MONTHS; m++) {
                for (int k = 0; k < KITCHENS; k++) {
                    if (roster.isTold(k)) {
                        live(law, k, m);
                    }
                }
            }
        }

        private void live(Script law, int kitchen, int month) {
            g = (g * FACTOR + STEP) % MODULUS;
            boolean wasShut = cells.isShut(kitchen, month - 1);
            fillFacts(kitchen, month, wasShut);
            boolean opens = wasShut && law.valueOr(OPENS_LINE, facts, 0) != 0;
            boolean stays = !wasShut && law.valueOr(SHUT_LINE, facts, 0) == 0;
            if (opens || stays) {
                int whole = law.valueOr(HIRE_LINE, facts, facts[0]);
                int half = law.valueOr(PART_LINE, facts, facts[1]);
                cells.tell(kitchen, month, clip(whole), clip(half));
            } else {
                cells.shutDown(kitchen, month);
            }
        }

        private void fillFacts(int kitchen, int month, boolean wasShut) {
            int bank = roster.bankOf(kitchen);
            int wage = roster.wageOf(kitchen);
            int floor = floors.floorOf(bank, month);
            facts[0] = cells.wholeOf(kitchen, month - 1);
            facts[1] = cells.halfOf(kitchen, month - 1);
            facts[2] = wage;
            facts[3] = floor;
            facts[4] = Math.max(0, floor - wage);
            facts[5] = bank;
            facts[6] = month;
            facts[7] = floors.tradeOf(bank, month);
            facts[8] = (int) (g / DRAW_UNIT % DRAWS);
            facts[9] = wasShut ? 1 : 0;
        }

        private static int clip(int hands) {
            return Math.max(0, Math.min(MOST_HANDS, hands));
        }
    }

    /** OTHER RIVERS in the order in which they were told. */
    private static final class OtherRivers {
        private static final int MOST = 20;

        private final int[] sums = new int[MOST];
        private final int[] sizes = new int[MOST];
        private final boolean[] printed = new boolean[MOST];
        private int length = 0;

        boolean isFull() {
            return length >= MOST;
        }

        int add(int sum, int n, boolean isPrinted) {
            if (isFull()) {
                return NONE;
            }
            sums[length] = sum;
            sizes[length] = n;
            printed[length] = isPrinted;
            length++;
            return length - 1;
        }

        int size() {
            return length;
        }

        int printedSize() {
            int size = 0;
            for (int i = 0; i < length; i++) {
                size += printed[i] ? 1 : 0;
            }
            return size;
        }

        void cutTo(int size) {
            length = Math.min(length, size);
        }

        int allSums(boolean printedOnly) {
            int sum = 0;
            for (int i = 0; i < length; i++) {
                sum += printed[i] || !printedOnly ? sums[i] : 0;
            }
            return sum;
        }

        int allKitchens(boolean printedOnly) {
            int sum = 0;
            for (int i = 0; i < length; i++) {
                sum += printed[i] || !printedOnly ? sizes[i] : 0;
            }
            return sum;
        }
    }

    /** What a MARK holds. */
    private static final class Mark {
        private final Ledger calls = new Ledger();
        private final Ledger sheets = new Ledger();
        private int others = 0;
        private boolean laid = false;

        void lay(Ledger toldCalls, Ledger toldSheets, int otherRivers) {
            calls.copyOf(toldCalls);
            sheets.copyOf(toldSheets);
            others = otherRivers;
            laid = true;
        }

        boolean isLaid() {
            return laid;
        }

        int otherRivers() {
            return others;
        }

        void bringBack(Ledger toldCalls, Ledger toldSheets) {
            toldCalls.copyOf(calls);
            toldSheets.copyOf(sheets);
        }
    }
}
