import java.util.ArrayList;
import java.util.HashMap;
import java.util.List;
import java.util.Map;
import java.util.NoSuchElementException;
import java.util.TreeMap;
import java.util.function.IntPredicate;

/**
 * A second RiverWage, written from the document on its own and as plainly as can be: it tries all
 * ways where RiverWage reckons, and reads texts by recursion into trees.
 */
final class PlainRiver {
    static final int NONE = -1;

    record Kitchen(int bank, int wage, int most, boolean chosen) {
    }

    /** whole below 0: SHUT. */
    record Hands(int whole, int half) {
        int by(int tenths) {
            return whole < 0 ? 0 : 10 * whole + tenths * half;
        }
    }

    record Frac(long above, long below) {
        static Frac of(long above, long below) {
            long x = Math.abs(above);
            long y = below;
            while (y != 0) {
                long rest = x % y;
                x = y;
                y = rest;
            }
            return new Frac(above / x, below / x);
        }

        Frac less(Frac f) {
            return of(above * f.below - f.above * below, below * f.below);
        }

        boolean under(Frac f) {
            return above * f.below < f.above * below;
        }

        Frac far() {
            return new Frac(Math.abs(above), below);
        }

        int sign() {
            return Long.signum(above);
        }

        long pick(int what) {
            return what == 0 ? above : below;
        }
    }

    record Other(int sum, int n, boolean printed) {
    }

    record Laid(Map<Integer, Hands> calls, Map<Integer, Hands> sheets, int others) {
    }

    /** A text that was read: E of a line, or the NUMBER of it. */
    static final class Text {
        final Map<String, Node> lines = new HashMap<>();
        final Map<String, Integer> numbers = new HashMap<>();
    }

    interface Node {
        int value(Map<String, Integer> facts);
    }

    private final TreeMap<Integer, Kitchen> kitchens = new TreeMap<>();
    private Map<Integer, Hands> calls = new HashMap<>();
    private Map<Integer, Hands> sheets = new HashMap<>();
    private final int[][] floors = new int[2][12];
    private final int[][] trades = new int[2][12];
    private final Map<Integer, long[]> books = new HashMap<>();
    private int tenths = 5;
    private String tape = "";
    private final Text[] laws = {new Text(), new Text(), new Text(), new Text()};
    private final Text[] writers = {new Text(), new Text(), new Text(), new Text()};
    private final List<Other> others = new ArrayList<>();
    private final Laid[] marks = new Laid[4];

    private static boolean in(int n, int least, int most) {
        return least <= n && n <= most;
    }

    private static void must(boolean so) {
        if (!so) {
            throw new NoSuchElementException();
        }
    }

    private static boolean months(int b, int a) {
        return in(b, 0, 11) && in(a, 0, 11) && a != b;
    }

    private static int cell(int kitchen, int month) {
        return 100 * kitchen + month;
    }

    private Hands told(int kitchen, int month) {
        return calls.get(cell(kitchen, month));
    }

    private boolean counted(int kitchen, int b, int a) {
        return kitchens.containsKey(kitchen) && told(kitchen, b) != null && told(kitchen, a) != null;
    }

    boolean kitchen(int kitchen, int bank, int wage, int most, boolean chosen) {
        boolean fine = in(kitchen, 0, 23) && in(bank, 0, 1) && in(wage, 0, 999) && in(most, 0, 99);
        if (fine) {
            kitchens.put(kitchen, new Kitchen(bank, wage, most, chosen));
        }
        return fine;
    }

    boolean call(int kitchen, int month, int whole, int half) {
        if (!kitchens.containsKey(kitchen) || !in(month, 0, 11)) {
            return false;
        }
        if (whole == NONE && half == NONE) {
            calls.put(cell(kitchen, month), new Hands(-1, -1));
            return true;
        }
        if (in(whole, 0, 99) && half == NONE) {
            calls.remove(cell(kitchen, month));
            return true;
        }
        if (in(whole, 0, 99) && in(half, 0, 99)) {
            calls.put(cell(kitchen, month), new Hands(whole, half));
            return true;
        }
        return false;
    }

    boolean sheet(int kitchen, int month, int whole, int half) {
        boolean fine = kitchens.containsKey(kitchen) && in(month, 0, 11) && in(whole, 0, 99) && in(half, 0, 99);
        if (fine) {
            sheets.put(cell(kitchen, month), new Hands(whole, half));
        }
        return fine;
    }

    boolean tenths(int n) {
        if (in(n, 0, 10)) {
            tenths = n;
        }
        return in(n, 0, 10);
    }

    boolean floor(int bank, int month, int floor, int trade) {
        if (!in(bank, 0, 1) || !in(month, 0, 11) || !in(floor, 0, 999) || !in(trade, -99, 99)) {
            return false;
        }
        while (month < 12) {
            floors[bank][month] = floor;
            trades[bank][month++] = trade;
        }
        return true;
    }

    int hands(int kitchen, int month) {
        Hands h = in(month, 0, 11) && kitchens.containsKey(kitchen) ? told(kitchen, month) : null;
        return h == null ? NONE : h.by(tenths);
    }

    int bank(int bank, int b, int a, int what) {
        must(in(bank, 0, 1) && months(b, a) && in(what, 0, 4));
        int sum = 0;
        for (int k : kitchens.keySet()) {
            if (kitchens.get(k).bank != bank) {
                continue;
            }
            Hands before = told(k, b);
            Hands after = told(k, a);
            boolean wasShut = before != null && before.whole < 0;
            boolean isShut = after != null && after.whole < 0;
            boolean both = before != null && after != null;
            if (what == 0 && both || what == 1 && !both || what == 2 && isShut && !wasShut
                || what == 3 && wasShut && !isShut) {
                sum++;
            }
            if (what == 4 && both) {
                sum += after.by(tenths) - before.by(tenths);
            }
        }
        return sum;
    }

    private int change(Map<Integer, Hands> by, int k, int b, int a, int t) {
        return by.get(cell(k, a)).by(t) - by.get(cell(k, b)).by(t);
    }

    private static Frac mean(List<Integer> changes) {
        int sum = 0;
        for (int c : changes) {
            sum += c;
        }
        return Frac.of(sum, changes.size());
    }

    /** null if there is none. */
    private static Frac riverOf(List<Integer> first, List<Integer> second) {
        return first.isEmpty() || second.isEmpty() ? null : mean(first).less(mean(second));
    }

    private List<Integer> changes(int bank, int b, int a, IntPredicate which) {
        List<Integer> list = new ArrayList<>();
        for (int k : kitchens.keySet()) {
            if (kitchens.get(k).bank == bank && counted(k, b, a) && which.test(k)) {
                list.add(change(calls, k, b, a, tenths));
            }
        }
        return list;
    }

    private Frac riverOf(int b, int a, IntPredicate which) {
        return riverOf(changes(0, b, a, which), changes(1, b, a, which));
    }

    private static long must(Frac f, int what) {
        must(f != null);
        return f.pick(what);
    }

    long river(int b, int a, int without, int what) {
        must(months(b, a) && in(what, 0, 1));
        must(without == -1 || kitchens.containsKey(without));
        return must(riverOf(b, a, k -> k != without), what);
    }

    long part(int b, int a, int kitchen, int what) {
        must(months(b, a) && in(what, 0, 1) && counted(kitchen, b, a));
        Frac without = riverOf(b, a, k -> k != kitchen);
        must(without != null);
        return riverOf(b, a, k -> true).less(without).pick(what);
    }

    /** The RIVER if each SILENT one has, in b and in a, none or all of its MOST, as is best for one end. */
    private Frac bound(int b, int a, int sign) {
        List<List<Integer>> ends = List.of(new ArrayList<>(), new ArrayList<>());
        for (Kitchen kitchen : kitchens.values()) {
            ends.get(kitchen.bank).add(0);
        }
        if (ends.get(0).isEmpty() || ends.get(1).isEmpty()) {
            return null;
        }
        ends.get(0).clear();
        ends.get(1).clear();
        for (int k : kitchens.keySet()) {
            Kitchen kitchen = kitchens.get(k);
            int[] before = told(k, b) == null ? new int[] {0, 10 * kitchen.most} : new int[] {told(k, b).by(tenths)};
            int[] after = told(k, a) == null ? new int[] {0, 10 * kitchen.most} : new int[] {told(k, a).by(tenths)};
            Integer best = null;
            for (int x : before) {
                for (int y : after) {
                    int towards = kitchen.bank == 0 ? sign : -sign;
                    if (best == null || (y - x) * towards > best * towards) {
                        best = y - x;
                    }
                }
            }
            ends.get(kitchen.bank).add(best);
        }
        return riverOf(ends.get(0), ends.get(1));
    }

    long bounds(int b, int a, int what) {
        must(months(b, a) && in(what, 0, 3));
        return must(bound(b, a, what < 2 ? -1 : 1), what % 2);
    }

    int swings(int b, int a) {
        if (!months(b, a) || bound(b, a, 1) == null) {
            return NONE;
        }
        return bound(b, a, -1).above <= 0 && bound(b, a, 1).above >= 0 ? 1 : 0;
    }

    /** By how much the BOUNDS lie apart less when the KITCHEN's MOST is 0. */
    int next(int b, int a) {
        if (!months(b, a) || bound(b, a, 1) == null) {
            return NONE;
        }
        int best = NONE;
        Frac most = null;
        Frac wide = bound(b, a, 1).less(bound(b, a, -1));
        for (int k : new ArrayList<>(kitchens.keySet())) {
            if (counted(k, b, a)) {
                continue;
            }
            Kitchen kept = kitchens.get(k);
            kitchens.put(k, new Kitchen(kept.bank, kept.wage, 0, kept.chosen));
            Frac narrower = wide.less(bound(b, a, 1).less(bound(b, a, -1)));
            kitchens.put(k, kept);
            if (best == NONE || most.under(narrower)) {
                best = k;
                most = narrower;
            }
        }
        return best;
    }

    long sheets(int b, int a, boolean chosen, int what) {
        must(months(b, a) && in(what, 0, 1));
        List<List<Integer>> both = List.of(new ArrayList<>(), new ArrayList<>());
        for (int k : kitchens.keySet()) {
            boolean has = sheets.containsKey(cell(k, b)) && sheets.containsKey(cell(k, a));
            if (has && (kitchens.get(k).chosen || !chosen)) {
                both.get(kitchens.get(k).bank).add(change(sheets, k, b, a, tenths));
            }
        }
        return must(riverOf(both.get(0), both.get(1)), what);
    }

    /** The sums of all ways to take k of a list. */
    private static void sums(List<Integer> list, int from, int k, int sum, List<Integer> into) {
        if (k == 0) {
            into.add(sum);
            return;
        }
        for (int i = from; i < list.size(); i++) {
            sums(list, i + 1, k - 1, sum + list.get(i), into);
        }
    }

    private static List<Integer> sums(List<Integer> list, int k) {
        List<Integer> all = new ArrayList<>();
        sums(list, 0, k, 0, all);
        return all;
    }

    long choosing(int b, int a, int k, int what) {
        must(months(b, a) && in(k, 1, 12) && in(what, 0, 3));
        List<Integer> first = sums(changes(0, b, a, x -> true), k);
        List<Integer> second = sums(changes(1, b, a, x -> true), k);
        must(!first.isEmpty() && !second.isEmpty());
        int least = first.stream().min(Integer::compare).get() - second.stream().max(Integer::compare).get();
        int greatest = first.stream().max(Integer::compare).get() - second.stream().min(Integer::compare).get();
        return Frac.of(what < 2 ? least : greatest, k).pick(what % 2);
    }

    long odds(int b, int a, int what) {
        if (!months(b, a) || !in(what, 0, 1)) {
            return NONE;
        }
        List<Integer> first = changes(0, b, a, x -> true);
        List<Integer> second = changes(1, b, a, x -> true);
        Frac river = riverOf(first, second);
        if (river == null || first.size() + second.size() > 14) {
            return NONE;
        }
        List<Integer> all = new ArrayList<>(first);
        all.addAll(second);
        int total = all.stream().mapToInt(x -> x).sum();
        int far = 0;
        List<Integer> ways = sums(all, first.size());
        for (int sum : ways) {
            Frac dealt = Frac.of(sum, first.size()).less(Frac.of(total - sum, second.size()));
            far += dealt.far().under(river.far()) ? 0 : 1;
        }
        return Frac.of(far, ways.size()).pick(what);
    }

    private boolean below(int k, int month) {
        return kitchens.get(k).wage < floors[kitchens.get(k).bank][month];
    }

    long beside(int b, int a, int what) {
        must(months(b, a) && in(what, 0, 1));
        return must(riverOf(changes(0, b, a, k -> below(k, a)), changes(0, b, a, k -> !below(k, a))), what);
    }

    long alike(int month, int what) {
        if (!in(month, 1, 11) || !in(what, 0, 2)) {
            return NONE;
        }
        int many = 0;
        Frac most = null;
        for (int m = 0; m < month; m++) {
            Frac river = riverOf(m, m + 1, k -> true);
            if (river != null) {
                many++;
                most = most == null || most.under(river.far()) ? river.far() : most;
            }
        }
        if (what == 0) {
            return many;
        }
        return most == null ? NONE : most.pick(what - 1);
    }

    long apart(int b, int a, int d, int what) {
        must(months(b, a) && in(d, -99, 99) && in(what, 0, 1));
        Frac river = riverOf(b, a, k -> true);
        must(river != null);
        return river.less(Frac.of(d * (a - b), 1)).pick(what);
    }

    int feed(long a, long b, long c) {
        for (long eight : new long[] {a, b, c}) {
            for (int i = 7; i >= 0; i--) {
                int sign = (int) (eight >> 8 * i) & 255;
                if ((sign == 10 || in(sign, 32, 126)) && tape.length() < 1000) {
                    tape += (char) sign;
                }
            }
        }
        return tape.length();
    }

    private String take() {
        String text = tape;
        tape = "";
        return text;
    }

    int law(int law) {
        PlainReader reader = new PlainReader(take(), false);
        if (!in(law, 0, 3)) {
            return -1;
        }
        Text text = reader.read();
        if (text != null) {
            laws[law] = text;
        }
        return reader.fault();
    }

    int writer(int writer) {
        PlainReader reader = new PlainReader(take(), true);
        if (!in(writer, 0, 3)) {
            return -1;
        }
        Text text = reader.read();
        if (text != null) {
            writers[writer] = text;
        }
        return reader.fault();
    }

    /** All MONTHS of a WORLD. */
    private Map<Integer, Hands> worldOf(Text law, int seed) {
        Map<Integer, Hands> world = new HashMap<>();
        for (int k : kitchens.keySet()) {
            world.put(cell(k, 0), told(k, 0) == null ? new Hands(0, 0) : told(k, 0));
        }
        long g = seed;
        for (int m = 1; m < 12; m++) {
            for (int k : kitchens.keySet()) {
                g = Math.floorMod(g * 1103515245L + 12345L, 2147483648L);
                world.put(cell(k, m), monthOf(law, k, m, world.get(cell(k, m - 1)), (int) (g / 65536 % 10)));
            }
        }
        return world;
    }

    private Hands monthOf(Text law, int k, int m, Hands before, int draw) {
        Kitchen kitchen = kitchens.get(k);
        boolean was = before.whole < 0;
        Map<String, Integer> facts = new HashMap<>();
        facts.put("whole", was ? 0 : before.whole);
        facts.put("half", was ? 0 : before.half);
        facts.put("wage", kitchen.wage);
        facts.put("floor", floors[kitchen.bank][m]);
        facts.put("gap", Math.max(0, floors[kitchen.bank][m] - kitchen.wage));
        facts.put("bank", kitchen.bank);
        facts.put("month", m);
        facts.put("trade", trades[kitchen.bank][m]);
        facts.put("draw", draw);
        facts.put("was", was ? 1 : 0);
        Node gate = law.lines.get(was ? "opens" : "shut");
        boolean holds = gate != null && gate.value(facts) != 0;
        if (holds != was) {
            return new Hands(-1, -1);
        }
        Node hire = law.lines.get("hire");
        Node part = law.lines.get("part");
        int whole = hire == null ? facts.get("whole") : hire.value(facts);
        int half = part == null ? facts.get("half") : part.value(facts);
        return new Hands(Math.min(99, Math.max(0, whole)), Math.min(99, Math.max(0, half)));
    }

    int world(int law, int seed, int kitchen, int month) {
        if (!in(law, 0, 3) || !in(seed, 0, 9999) || !kitchens.containsKey(kitchen) || !in(month, 0, 11)) {
            return NONE;
        }
        return worldOf(laws[law], seed).get(cell(kitchen, month)).by(tenths);
    }

    long fits(int law, int seeds) {
        if (!in(law, 0, 3) || !in(seeds, 1, 20)) {
            return NONE;
        }
        long far = 0;
        for (int seed = 0; seed < seeds; seed++) {
            Map<Integer, Hands> world = worldOf(laws[law], seed);
            for (int at : calls.keySet()) {
                if (at % 100 != 0) {
                    far += Math.abs(world.get(at).by(tenths) - calls.get(at).by(tenths));
                }
            }
        }
        return far;
    }

    int best(int seeds) {
        int best = NONE;
        for (int law = 3; law >= 0 && in(seeds, 1, 20); law--) {
            if (best == NONE || fits(law, seeds) <= fits(best, seeds)) {
                best = law;
            }
        }
        return best;
    }

    int rivers(int law, int seeds, int b, int a, int what) {
        if (!in(law, 0, 3) || !in(seeds, 1, 20) || !months(b, a) || !in(what, 0, 2)) {
            return NONE;
        }
        int[] signs = new int[3];
        for (int seed = 0; seed < seeds; seed++) {
            Map<Integer, Hands> world = worldOf(laws[law], seed);
            List<List<Integer>> both = List.of(new ArrayList<>(), new ArrayList<>());
            for (int k : kitchens.keySet()) {
                if (counted(k, b, a)) {
                    both.get(kitchens.get(k).bank).add(change(world, k, b, a, tenths));
                }
            }
            Frac river = riverOf(both.get(0), both.get(1));
            if (river == null) {
                return NONE;
            }
            signs[river.sign() + 1]++;
        }
        return signs[what];
    }

    int other(int sum, int n, boolean printed) {
        if (!in(sum, -9999, 9999) || !in(n, 1, 999) || others.size() == 20) {
            return NONE;
        }
        others.add(new Other(sum, n, printed));
        return others.size() - 1;
    }

    private Frac othersMean(boolean printed) {
        int sum = 0;
        int n = 0;
        for (Other other : others) {
            if (other.printed || !printed) {
                sum += other.sum;
                n += other.n;
            }
        }
        return n == 0 ? null : Frac.of(sum, n);
    }

    long others(boolean printed, int what) {
        must(in(what, 0, 1));
        return must(othersMean(printed), what);
    }

    int drawer(int n) {
        Frac mean = othersMean(true);
        if (!in(n, 1, 999) || mean == null) {
            return NONE;
        }
        int sum = 0;
        for (Other other : others) {
            sum += other.printed ? other.sum : 0;
        }
        int many = 0;
        for (int now = sum; Long.signum(now) == mean.sign() && now != 0; now -= mean.sign() * n) {
            many++;
        }
        return many;
    }

    private int numberOf(int writer, String word, int without) {
        return writers[writer].numbers.getOrDefault(word, without);
    }

    private boolean takesBy(int writer, int k, int t) {
        int from = numberOf(writer, "from", 0);
        Kitchen kitchen = kitchens.get(k);
        Map<String, Integer> facts = new HashMap<>();
        facts.put("bank", kitchen.bank);
        facts.put("wage", kitchen.wage);
        facts.put("most", kitchen.most);
        facts.put("chosen", kitchen.chosen ? 1 : 0);
        int silent = 0;
        int shut = 0;
        for (int m = 0; m < 12; m++) {
            silent += told(k, m) == null ? 1 : 0;
            shut += told(k, m) != null && told(k, m).whole < 0 ? 1 : 0;
        }
        facts.put("silent", silent);
        facts.put("shut", shut);
        facts.put("bound", below(k, numberOf(writer, "to", 11)) ? 1 : 0);
        facts.put("hands", told(k, from) == null ? 0 : told(k, from).by(t));
        facts.put("number", k);
        Node take = writers[writer].lines.get("take");
        return take == null || take.value(facts) != 0;
    }

    int takes(int writer, int kitchen) {
        if (!in(writer, 0, 3) || !kitchens.containsKey(kitchen)) {
            return NONE;
        }
        return takesBy(writer, kitchen, numberOf(writer, "tenths", tenths)) ? 1 : 0;
    }

    private Frac written(int writer, int t) {
        int b = numberOf(writer, "from", 0);
        int a = numberOf(writer, "to", 11);
        int kept = tenths;
        tenths = t;
        Frac river = b == a ? null : riverOf(b, a, k -> takesBy(writer, k, t));
        tenths = kept;
        return river;
    }

    long writes(int writer, int what) {
        must(in(writer, 0, 3) && in(what, 0, 1));
        return must(written(writer, numberOf(writer, "tenths", tenths)), what);
    }

    long forks(int what) {
        must(in(what, 0, 6));
        List<Frac> all = new ArrayList<>();
        for (int i = 0; i < 44; i++) {
            Frac river = written(i / 11, i % 11);
            if (river != null) {
                all.add(river);
            }
        }
        if (what < 3) {
            return all.stream().filter(f -> what == 0 || f.sign() == (what == 1 ? -1 : 1)).count();
        }
        must(!all.isEmpty());
        all.sort((f, g) -> f.less(g).sign());
        return all.get(what < 5 ? 0 : all.size() - 1).pick(what % 2 == 1 ? 0 : 1);
    }

    boolean book(int kitchen, int month, int hours, int takings) {
        boolean fine = kitchens.containsKey(kitchen) && in(month, 0, 11) && in(hours, 0, 999) && in(takings, 0, 99999);
        if (fine) {
            books.put(cell(kitchen, month), new long[] {hours, takings});
        }
        return fine;
    }

    private long[] bookOf(int k, int m) {
        return books.getOrDefault(cell(k, m), new long[2]);
    }

    private long rate(int k, int m) {
        return Math.max(kitchens.get(k).wage, floors[kitchens.get(k).bank][m]);
    }

    long booked(int kitchen, int month, int what) {
        must(kitchens.containsKey(kitchen) && in(month, 0, 11) && in(what, 0, 2));
        must(what == 0 || told(kitchen, month) != null);
        if (what == 0) {
            return rate(kitchen, month);
        }
        long paid = told(kitchen, month).by(tenths) * bookOf(kitchen, month)[0] * rate(kitchen, month);
        return what == 1 ? paid : 10 * bookOf(kitchen, month)[1] - paid;
    }

    long closes(int bank, int b, int a, int what) {
        must(in(bank, 0, 1) && months(b, a) && in(what, 0, 5));
        long[] sums = new long[6];
        for (int k : kitchens.keySet()) {
            if (kitchens.get(k).bank == bank && counted(k, b, a)) {
                long handsB = told(k, b).by(tenths);
                long handsA = told(k, a).by(tenths);
                sums[1] += (handsA - handsB) * bookOf(k, b)[0] * rate(k, b);
                sums[2] += handsA * (bookOf(k, a)[0] - bookOf(k, b)[0]) * rate(k, b);
                sums[3] += handsA * bookOf(k, a)[0] * (rate(k, a) - rate(k, b));
                sums[4] += 10 * (bookOf(k, a)[1] - bookOf(k, b)[1]);
            }
        }
        // the books must close
        sums[0] = sums[1] + sums[2] + sums[3];
        sums[5] = sums[4] - sums[0];
        return sums[what];
    }

    /** null if they can't be drawn. */
    private Frac lotsOf(int b, int a, int k) {
        List<Integer> first = changes(0, b, a, x -> true);
        List<Integer> second = changes(1, b, a, x -> true);
        Frac river = riverOf(first, second);
        if (river == null || first.size() > 9 || second.size() > 9 || first.size() < k || second.size() < k) {
            return null;
        }
        int alike = 0;
        int all = 0;
        for (int x : sums(first, k)) {
            for (int y : sums(second, k)) {
                all++;
                alike += Integer.signum(x - y) == river.sign() ? 1 : 0;
            }
        }
        return Frac.of(alike, all);
    }

    long lots(int b, int a, int k, int what) {
        if (!months(b, a) || !in(k, 1, 9) || !in(what, 0, 1) || lotsOf(b, a, k) == null) {
            return NONE;
        }
        return lotsOf(b, a, k).pick(what);
    }

    int needed(int b, int a, int p) {
        if (!months(b, a) || !in(p, 1, 100)) {
            return NONE;
        }
        for (int k = 1; k <= 9; k++) {
            Frac lots = lotsOf(b, a, k);
            if (lots != null && !lots.under(Frac.of(p, 100))) {
                return k;
            }
        }
        return NONE;
    }

    int slips(int month, int what) {
        if (!in(month, 0, 11) || !in(what, 0, 2)) {
            return NONE;
        }
        int[] answers = new int[3];
        for (int k : kitchens.keySet()) {
            Hands sheet = sheets.get(cell(k, month));
            if (told(k, month) != null && sheet != null) {
                int far = Math.abs(sheet.by(tenths) - told(k, month).by(tenths));
                answers[0]++;
                answers[1] += far > 0 ? 1 : 0;
                answers[2] = Math.max(answers[2], far);
            }
        }
        return answers[what];
    }

    long mixed(int b, int a, int what) {
        must(months(b, a) && in(what, 0, 3));
        List<List<Integer>> both = List.of(new ArrayList<>(), new ArrayList<>());
        for (int k : kitchens.keySet()) {
            if (counted(k, b, a)) {
                int bank = kitchens.get(k).bank;
                int change = change(calls, k, b, a, tenths);
                if (sheets.containsKey(cell(k, b)) && sheets.containsKey(cell(k, a))) {
                    int bySheets = change(sheets, k, b, a, tenths);
                    boolean up = (what >= 2) == (bank == 0);
                    change = bySheets > change == up ? bySheets : change;
                }
                both.get(bank).add(change);
            }
        }
        return must(riverOf(both.get(0), both.get(1)), what % 2);
    }

    int where(int what) {
        int month = NONE;
        int most = 0;
        for (int m = 1; m < 12; m++) {
            for (int first = 0; first < 2; first++) {
                int second = 1 - first;
                if (floors[first][m] - floors[first][m - 1] > floors[second][m] - floors[second][m - 1]) {
                    int now = m;
                    int weight = changes(first, m - 1, m, k -> below(k, now)).size()
                        * changes(second, m - 1, m, k -> true).size();
                    if (weight > most) {
                        most = weight;
                        month = m;
                    }
                }
            }
        }
        if (month == NONE) {
            return NONE;
        }
        return what == 0 ? month : what == 1 ? most : NONE;
    }

    boolean mark(int mark, boolean back) {
        if (!in(mark, 0, 3)) {
            return false;
        }
        if (!back) {
            marks[mark] = new Laid(new HashMap<>(calls), new HashMap<>(sheets), others.size());
            return true;
        }
        Laid laid = marks[mark];
        if (laid == null || others.size() < laid.others) {
            return false;
        }
        calls = new HashMap<>(laid.calls);
        sheets = new HashMap<>(laid.sheets);
        while (others.size() > laid.others) {
            others.remove(others.size() - 1);
        }
        return true;
    }

    int count(int what) {
        switch (what) {
            case 0:
                return kitchens.size();
            case 1:
                return calls.size();
            case 2:
                return sheets.size();
            case 3:
                return others.size();
            case 4:
                return (int) others.stream().filter(Other::printed).count();
            case 5:
                return tenths;
            case 6:
                return tape.length();
            case 7:
                return (int) kitchens.values().stream().filter(Kitchen::chosen).count();
            default:
                return NONE;
        }
    }
}
