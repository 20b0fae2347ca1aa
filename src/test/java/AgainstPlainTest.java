import java.util.NoSuchElementException;
import java.util.Random;
import java.util.function.Supplier;

/**
 * Long runs of drawn calls, each answered by RiverWage and by PlainRiver. The draws are the same each
 * time; an argument says how many runs.
 */
public final class AgainstPlainTest {
    private static final int RUNS = 400;
    private static final int CALLS = 512;
    private static final Due due = new Due("AgainstPlainTest");

    private final Random random;
    private final RiverWage x = new RiverWage();
    private final PlainRiver y = new PlainRiver();
    /** Runs differ in how many KITCHENS and MONTHS they use, so that some are full and some are not. */
    private final int kitchens;
    private final int months;
    private final int spread;
    private String said = "";

    private AgainstPlainTest(int run) {
        random = new Random(run);
        kitchens = 2 + random.nextInt(23);
        months = 2 + random.nextInt(11);
        spread = random.nextBoolean() ? 3 : 30;
    }

    public static void main(String[] args) {
        int runs = args.length > 0 ? Integer.parseInt(args[0]) : RUNS;
        for (int run = 0; run < runs; run++) {
            AgainstPlainTest test = new AgainstPlainTest(run);
            for (int i = 0; i < CALLS; i++) {
                int before = due.wrong();
                test.ask(test.random.nextInt(100));
                if (due.wrong() > before) {
                    System.out.println("  in run " + run + ", call " + i);
                    break;
                }
            }
        }
        due.close();
    }

    private void same(String what, Supplier<Object> got, Supplier<Object> want) {
        String g = answer(got);
        String w = answer(want);
        due.is(what + ": " + g + " for " + w, g.equals(w), true);
    }

    private static String answer(Supplier<Object> call) {
        try {
            return "" + call.get();
        } catch (NoSuchElementException e) {
            return e.getClass().getName();
        } catch (RuntimeException e) {
            return "threw " + e;
        }
    }

    private int upTo(int most) {
        return random.nextInt(most + 1);
    }

    /** Now and then one beyond the edges. */
    private int edgy(int least, int most) {
        if (random.nextInt(60) == 0) {
            int[] beyond = {least - 1, most + 1, least, most, Integer.MIN_VALUE, Integer.MAX_VALUE};
            return beyond[random.nextInt(beyond.length)];
        }
        return least + random.nextInt(most - least + 1);
    }

    private int kitchen() {
        return random.nextInt(40) == 0 ? edgy(-1, 24) : upTo(kitchens - 1);
    }

    private int month() {
        return random.nextInt(60) == 0 ? edgy(-1, 12) : upTo(months - 1);
    }

    private void ask(int which) {
        if (which < 6) {
            askKitchen();
        } else if (which < 40) {
            askCall();
        } else if (which < 50) {
            askSheet();
        } else if (which < 54) {
            askFloor();
        } else if (which < 60) {
            askText();
        } else if (which < 64) {
            askBook();
        } else if (which < 80) {
            askRiver(upTo(13));
        } else if (which < 88) {
            askWorld(upTo(4));
        } else {
            askRest(upTo(16));
        }
    }

    private void askKitchen() {
        int k = kitchen();
        int bank = edgy(0, 1);
        int wage = random.nextBoolean() ? edgy(0, 999) : 400 + 10 * upTo(10);
        int most = edgy(0, 99);
        boolean chosen = random.nextBoolean();
        same("kitchen", () -> x.kitchen(k, bank, wage, most, chosen), () -> y.kitchen(k, bank, wage, most, chosen));
    }

    private void askCall() {
        int k = kitchen();
        int m = month();
        int sort = random.nextInt(20);
        int whole = sort == 0 ? -1 : random.nextInt(30) == 0 ? edgy(-1, 99) : upTo(spread);
        int half = sort <= 1 ? -1 : random.nextInt(30) == 0 ? edgy(-1, 99) : upTo(spread);
        same("call", () -> x.call(k, m, whole, half), () -> y.call(k, m, whole, half));
    }

    private void askSheet() {
        int k = kitchen();
        int m = month();
        int whole = random.nextInt(30) == 0 ? edgy(-1, 99) : upTo(spread);
        int half = random.nextInt(30) == 0 ? edgy(-1, 99) : upTo(spread);
        same("sheet", () -> x.sheet(k, m, whole, half), () -> y.sheet(k, m, whole, half));
    }

    private void askFloor() {
        int bank = edgy(0, 1);
        int m = month();
        int floor = random.nextBoolean() ? edgy(0, 999) : 400 + 10 * upTo(10);
        int trade = edgy(-99, 99);
        same("floor", () -> x.floor(bank, m, floor, trade), () -> y.floor(bank, m, floor, trade));
    }

    private void askText() {
        boolean isLaw = random.nextBoolean();
        String text = DrawnText.of(random, isLaw);
        said = text;
        for (int at = 0; at < text.length(); at += 24) {
            long a = Texts.eight(text, at);
            long b = Texts.eight(text, at + 8);
            long c = Texts.eight(text, at + 16);
            same("feed", () -> x.feed(a, b, c), () -> y.feed(a, b, c));
        }
        if (random.nextInt(20) == 0) {
            long a = random.nextLong();
            same("feed", () -> x.feed(a, 0, a), () -> y.feed(a, 0, a));
        }
        int number = edgy(0, 3);
        if (isLaw) {
            same("law of '" + said + "'", () -> x.law(number), () -> y.law(number));
        } else {
            same("writer of '" + said + "'", () -> x.writer(number), () -> y.writer(number));
        }
    }

    private void askBook() {
        int k = kitchen();
        int m = month();
        int hours = edgy(0, 999);
        int takings = edgy(0, 99999);
        same("book", () -> x.book(k, m, hours, takings), () -> y.book(k, m, hours, takings));
    }

    private void askRiver(int which) {
        int b = month();
        int a = month();
        int k = kitchen();
        int two = edgy(0, 1);
        int four = edgy(0, 3);
        switch (which) {
            case 0 -> {
                int what = edgy(0, 4);
                int bank = edgy(0, 1);
                same("bank", () -> x.bank(bank, b, a, what), () -> y.bank(bank, b, a, what));
            }
            case 1 -> {
                int without = random.nextBoolean() ? -1 : k;
                same("river", () -> x.river(b, a, without, two), () -> y.river(b, a, without, two));
            }
            case 2 -> same("part", () -> x.part(b, a, k, two), () -> y.part(b, a, k, two));
            case 3 -> same("bounds", () -> x.bounds(b, a, four), () -> y.bounds(b, a, four));
            case 4 -> same("swings", () -> x.swings(b, a), () -> y.swings(b, a));
            case 5 -> same("next", () -> x.next(b, a), () -> y.next(b, a));
            case 6 -> {
                boolean chosen = random.nextBoolean();
                same("sheets", () -> x.sheets(b, a, chosen, two), () -> y.sheets(b, a, chosen, two));
            }
            case 7 -> {
                int many = random.nextBoolean() ? edgy(1, 12) : edgy(1, 3);
                same("choosing", () -> x.choosing(b, a, many, four), () -> y.choosing(b, a, many, four));
            }
            case 8 -> same("odds", () -> x.odds(b, a, two), () -> y.odds(b, a, two));
            case 9 -> same("beside", () -> x.beside(b, a, two), () -> y.beside(b, a, two));
            case 10 -> {
                int up = edgy(1, 11);
                int what = edgy(0, 2);
                same("alike", () -> x.alike(up, what), () -> y.alike(up, what));
            }
            case 11 -> {
                int d = edgy(-99, 99);
                same("apart", () -> x.apart(b, a, d, two), () -> y.apart(b, a, d, two));
            }
            case 12 -> same("mixed", () -> x.mixed(b, a, four), () -> y.mixed(b, a, four));
            default -> {
                int what = edgy(0, 2);
                same("slips", () -> x.slips(b, what), () -> y.slips(b, what));
            }
        }
    }

    private void askWorld(int which) {
        int law = edgy(0, 3);
        int seed = edgy(0, 9999);
        int seeds = random.nextInt(30) == 0 ? edgy(0, 21) : edgy(1, 3);
        int k = kitchen();
        int m = random.nextBoolean() ? month() : edgy(0, 11);
        int b = month();
        int what = edgy(0, 2);
        switch (which) {
            case 0, 1 -> same("world", () -> x.world(law, seed, k, m), () -> y.world(law, seed, k, m));
            case 2 -> same("fits", () -> x.fits(law, seeds), () -> y.fits(law, seeds));
            case 3 -> same("best", () -> x.best(seeds), () -> y.best(seeds));
            default -> same("rivers", () -> x.rivers(law, seeds, b, m, what), () -> y.rivers(law, seeds, b, m, what));
        }
    }

    private void askRest(int which) {
        int b = month();
        int a = month();
        int k = kitchen();
        int two = edgy(0, 1);
        boolean flag = random.nextInt(3) != 0;
        int writer = edgy(0, 3);
        switch (which) {
            case 0 -> {
                int n = edgy(0, 10);
                same("tenths", () -> x.tenths(n), () -> y.tenths(n));
            }
            case 1 -> same("hands", () -> x.hands(k, b), () -> y.hands(k, b));
            case 2, 3 -> {
                int sum = random.nextBoolean() ? edgy(-9999, 9999) : upTo(20) - 10;
                int n = edgy(1, 999);
                same("other", () -> x.other(sum, n, flag), () -> y.other(sum, n, flag));
            }
            case 4 -> same("others", () -> x.others(flag, two), () -> y.others(flag, two));
            case 5 -> {
                int n = edgy(1, 999);
                same("drawer", () -> x.drawer(n), () -> y.drawer(n));
            }
            case 6 -> same("takes", () -> x.takes(writer, k), () -> y.takes(writer, k));
            case 7 -> same("writes", () -> x.writes(writer, two), () -> y.writes(writer, two));
            case 8 -> {
                int what = edgy(0, 6);
                same("forks", () -> x.forks(what), () -> y.forks(what));
            }
            case 9 -> {
                int what = edgy(0, 2);
                same("booked", () -> x.booked(k, b, what), () -> y.booked(k, b, what));
            }
            case 10 -> {
                int what = edgy(0, 5);
                int bank = edgy(0, 1);
                same("closes", () -> x.closes(bank, b, a, what), () -> y.closes(bank, b, a, what));
            }
            case 11 -> {
                int many = random.nextBoolean() ? edgy(1, 9) : edgy(1, 3);
                same("lots", () -> x.lots(b, a, many, two), () -> y.lots(b, a, many, two));
            }
            case 12 -> {
                int p = edgy(1, 100);
                same("needed", () -> x.needed(b, a, p), () -> y.needed(b, a, p));
            }
            case 13 -> same("where", () -> x.where(two), () -> y.where(two));
            case 14 -> {
                int mark = edgy(0, 3);
                boolean back = random.nextInt(4) == 0;
                same("mark", () -> x.mark(mark, back), () -> y.mark(mark, back));
            }
            default -> {
                int what = edgy(0, 7);
                same("count", () -> x.count(what), () -> y.count(what));
            }
        }
    }
}
