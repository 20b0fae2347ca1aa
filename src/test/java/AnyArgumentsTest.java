import java.lang.reflect.InvocationTargetException;
import java.lang.reflect.Method;
import java.lang.reflect.Modifier;
import java.util.ArrayList;
import java.util.Arrays;
import java.util.Comparator;
import java.util.List;
import java.util.NoSuchElementException;
import java.util.Random;
import java.util.Set;

/**
 * Every call with mixtures of edges, of what lies beyond them and of the ends of int and long, on an
 * empty object, on one with a few KITCHENS and on a full one. Nothing but NoSuchElementException comes
 * out, only where the face says so; questions and refused calls leave all as it was.
 */
public final class AnyArgumentsTest {
    private static final int[] NUMBERS = {Integer.MIN_VALUE, -10000, -100, -99, -2, -1, 0, 1, 2, 3, 4, 5, 6, 7, 9, 10, 11,
        12, 13, 14, 20, 21, 23, 24, 99, 100, 999, 1000, 9999, 10000, 99999, 100000, Integer.MAX_VALUE};
    private static final long[] SIGNS = {0, -1, 1, Long.MIN_VALUE, Long.MAX_VALUE, Texts.eight("hire 1 ;", 0),
        Texts.eight("not (\n<;", 0), 0x1F207E7F80FF0A0BL};
    private static final int MOST_MIXTURES = 6000;
    /** With what builds the object and what looks at it the 512 calls are not reached. */
    private static final int CALLS_OF_AN_OBJECT = 150;
    private static final Set<String> TELLING = Set.of("kitchen", "call", "sheet", "tenths", "floor", "book", "other", "mark");
    private static final Set<String> TAPE = Set.of("feed", "law", "writer");
    private static final Due due = new Due("AnyArgumentsTest");

    public static void main(String[] args) throws Exception {
        Method[] methods = RiverWage.class.getDeclaredMethods();
        Arrays.sort(methods, Comparator.comparing(Method::getName));
        for (int kitchens : new int[] {0, 14, 24}) {
            String untouched = look(built(kitchens));
            for (Method method : methods) {
                if (Modifier.isPublic(method.getModifiers())) {
                    due.under(kitchens + " kitchens, " + method.getName());
                    tryAll(method, kitchens, untouched);
                }
            }
        }
        due.close();
    }

    private static void tryAll(Method method, int kitchens, String untouched) throws Exception {
        List<Object[]> harmless = new ArrayList<>();
        RiverWage x = built(kitchens);
        int calls = 0;
        for (Object[] mixture : mixtures(method.getParameterTypes())) {
            String answer = answer(method, x, mixture);
            calls++;
            boolean isTaken = TAPE.contains(method.getName())
                || (TELLING.contains(method.getName()) && !answer.equals("false") && !answer.equals("-1"));
            if (!isTaken) {
                harmless.add(mixture);
            }
            if (isTaken || calls >= CALLS_OF_AN_OBJECT) {
                x = built(kitchens);
                calls = 0;
            }
        }
        for (int from = 0; from < harmless.size(); from += CALLS_OF_AN_OBJECT) {
            List<Object[]> some = harmless.subList(from, Math.min(harmless.size(), from + CALLS_OF_AN_OBJECT));
            RiverWage y = built(kitchens);
            for (Object[] mixture : some) {
                answer(method, y, mixture);
            }
            due.is("all is as it was, from " + Arrays.toString(some.get(0)), look(y).equals(untouched), true);
        }
    }

    private static String answer(Method method, RiverWage x, Object[] mixture) throws IllegalAccessException {
        try {
            return "" + method.invoke(x, mixture);
        } catch (InvocationTargetException e) {
            boolean isDue = e.getCause().getClass() == NoSuchElementException.class
                && method.getExceptionTypes().length == 1;
            due.is(Arrays.toString(mixture) + " throws " + e.getCause(), isDue, true);
            return "none";
        }
    }

    /** All mixtures if they are few, else as many drawn ones; the draws are the same each time. */
    private static List<Object[]> mixtures(Class<?>[] types) {
        long all = 1;
        for (Class<?> type : types) {
            all *= choices(type);
        }
        Random random = new Random(all);
        List<Object[]> mixtures = new ArrayList<>();
        for (long i = 0; i < Math.min(all, MOST_MIXTURES); i++) {
            long number = i;
            Object[] mixture = new Object[types.length];
            for (int p = 0; p < types.length; p++) {
                int choices = choices(types[p]);
                int which = all <= MOST_MIXTURES ? (int) (number % choices) : random.nextInt(choices);
                number /= choices;
                mixture[p] = choice(types[p], which);
            }
            mixtures.add(mixture);
        }
        return mixtures;
    }

    private static int choices(Class<?> type) {
        return type == boolean.class ? 2 : type == long.class ? SIGNS.length : NUMBERS.length;
    }

    private static Object choice(Class<?> type, int which) {
        if (type == boolean.class) {
            return which == 1;
        }
        if (type == long.class) {
            return SIGNS[which];
        }
        return NUMBERS[which];
    }

    private static RiverWage built(int kitchens) {
        RiverWage x = new RiverWage();
        if (kitchens == 0) {
            return x;
        }
        for (int k = 0; k < kitchens; k++) {
            x.kitchen(k, k % 2, 390 + 7 * k, k, k % 3 == 0);
            x.call(k, 0, k % 5, k);
            x.call(k, 11, 3 * k % 7, 1);
            x.sheet(k, 0, k % 5, k % 7);
            x.sheet(k, 11, 1, k);
            x.book(k, 11, 40 + k, 100 * k);
        }
        x.call(1, 1, 3, 3);
        x.call(2, 1, RiverWage.NONE, RiverWage.NONE);
        x.floor(0, 1, 425, 3);
        x.floor(1, 11, 505, -3);
        Texts.law(x, 0, "hire draw ; part gap ; shut when month = 5 ; opens when was ;");
        Texts.law(x, 3, "hire whole - half ; part trade ;");
        Texts.writer(x, 0, "take when bound or hands < 40 ; to 1 ;");
        Texts.writer(x, 3, "take when chosen ; tenths 10 ; from 11 ; to 0 ;");
        for (int i = 0; i < (kitchens == 24 ? 20 : 3); i++) {
            x.other(10 * i - 30, i + 1, i % 2 == 0);
        }
        x.mark(1, false);
        x.feed(SIGNS[5], 0, 0);
        return x;
    }

    /** What can be seen of an object: each thing that is told shows in some answer. */
    private static String look(RiverWage x) {
        StringBuilder seen = new StringBuilder();
        for (int what = 0; what < 8; what++) {
            seen.append(x.count(what)).append(' ');
        }
        for (int bank = 0; bank < 2; bank++) {
            for (int what = 0; what < 5; what++) {
                seen.append(x.bank(bank, 0, 11, what)).append(' ').append(x.closes(bank, 0, 11, what)).append(' ');
            }
        }
        for (int m = 0; m < 12; m++) {
            seen.append(x.hands(1, m)).append(' ').append(x.slips(m, 2)).append(' ').append(x.world(0, 3, 2, m)).append(' ');
        }
        for (int text = 0; text < 4; text++) {
            seen.append(x.fits(text, 2)).append(' ').append(x.takes(text, 3)).append(' ');
        }
        seen.append(x.drawer(1)).append(' ').append(x.where(1)).append(' ').append(x.next(0, 1)).append(' ');
        seen.append(x.odds(0, 11, 0)).append(' ').append(x.needed(0, 11, 60)).append(' ').append(x.forks(0)).append(' ');
        if (x.count(0) > 0) {
            seen.append(x.bounds(0, 1, 2)).append(' ').append(x.bounds(0, 1, 3)).append(' ').append(x.mixed(0, 11, 0));
            seen.append(x.others(false, 0)).append(' ').append(x.others(false, 1)).append(' ').append(x.forks(5));
            seen.append(x.sheets(0, 11, true, 0)).append(' ').append(x.booked(0, 11, 2)).append(' ').append(x.beside(0, 11, 0));
        }
        seen.append(x.mark(1, true)).append(x.mark(0, true));
        return seen.toString();
    }
}
