import java.util.ArrayList;
import java.util.List;
import java.util.Random;

/** Texts of LAWS and WRITERS by draws: most of them without a FAULT, some with one sign or token changed. */
final class DrawnText {
    private static final String[] LAW_FACTS =
        {"whole", "half", "wage", "floor", "gap", "bank", "month", "trade", "draw", "was"};
    private static final String[] WRITER_FACTS =
        {"bank", "wage", "most", "chosen", "silent", "shut", "bound", "hands", "number"};
    private static final String[] SPOILERS = {"hire", "part", "shut", "opens", "when", "not", "(", ")", "<", "=", "+", "-",
        "*", ";", "and", "or", "7", "12", "12345", "whole", "most", "take", "from", "to", "tenths", "Q", "?", "abcdefghi"};

    private final Random random;
    private final boolean isLaw;
    private final List<String> tokens = new ArrayList<>();

    private DrawnText(Random random, boolean isLaw) {
        this.random = random;
        this.isLaw = isLaw;
    }

    static String of(Random random, boolean isLaw) {
        DrawnText text = new DrawnText(random, isLaw);
        text.addLines();
        for (int spoils = random.nextInt(3) == 0 ? 1 + random.nextInt(2) : 0; spoils > 0; spoils--) {
            text.spoil();
        }
        return text.join();
    }

    private void addLines() {
        String[] words = isLaw ? new String[] {"hire", "part", "shut", "opens"}
            : new String[] {"take", "from", "to", "tenths"};
        int from = random.nextInt(4);
        int many = 1 + random.nextInt(4);
        for (int i = 0; i < many; i++) {
            String word = words[(from + i) % 4];
            tokens.add(word);
            if (word.equals("take") || word.equals("shut") || word.equals("opens")) {
                tokens.add("when");
            }
            if (word.equals("from") || word.equals("to") || word.equals("tenths")) {
                tokens.add("" + random.nextInt(random.nextInt(10) == 0 ? 14 : 10));
            } else {
                addE(random.nextInt(12) == 0 ? 1 : 0);
            }
            tokens.add(";");
        }
    }

    private String drawn(String... from) {
        return from[random.nextInt(from.length)];
    }

    private void addE(int depth) {
        addTest(depth);
        while (random.nextInt(4) == 0) {
            tokens.add(drawn("and", "or"));
            addTest(depth);
        }
    }

    private void addTest(int depth) {
        addSum(depth);
        if (random.nextInt(3) == 0) {
            tokens.add(drawn("<", "="));
            addSum(depth);
        }
    }

    private void addSum(int depth) {
        addPart(depth);
        while (random.nextInt(3) == 0) {
            tokens.add(drawn("+", "-", "*"));
            addPart(depth);
        }
    }

    private void addPart(int depth) {
        int sort = depth >= 6 ? 9 : random.nextInt(12);
        if (sort == 0 || sort == 1) {
            tokens.add("not");
            addPart(depth + 1);
        } else if (sort == 2 || sort == 3) {
            tokens.add("(");
            addE(depth + 1);
            tokens.add(")");
        } else if (sort <= 6) {
            tokens.add("" + random.nextInt(random.nextInt(5) == 0 ? 10000 : 13));
        } else {
            tokens.add(drawn(isLaw ? LAW_FACTS : WRITER_FACTS));
        }
    }

    private void spoil() {
        int at = random.nextInt(tokens.size());
        switch (random.nextInt(3)) {
            case 0 -> tokens.set(at, drawn(SPOILERS));
            case 1 -> tokens.add(at, drawn(SPOILERS));
            default -> {
                if (tokens.size() > 1) {
                    tokens.remove(at);
                }
            }
        }
    }

    private static boolean isLetter(char sign) {
        return sign >= 'a' && sign <= 'z';
    }

    private String join() {
        StringBuilder text = new StringBuilder();
        boolean tight = random.nextInt(3) == 0;
        for (String token : tokens) {
            boolean mayTouch = text.length() > 0
                && !(isLetter(text.charAt(text.length() - 1)) && isLetter(token.charAt(0)))
                && !(Character.isDigit(text.charAt(text.length() - 1)) && Character.isDigit(token.charAt(0)));
            if (!tight || !mayTouch) {
                text.append(random.nextInt(8) == 0 ? "\n" : random.nextInt(12) == 0 ? "  " : " ");
            }
            text.append(token);
        }
        if (random.nextInt(6) == 0) {
            text.append(' ');
        }
        return text.length() > 980 ? text.substring(0, 980) : text.toString();
    }
}
