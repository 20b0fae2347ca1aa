import java.util.ArrayList;
import java.util.List;
import java.util.regex.Matcher;
import java.util.regex.Pattern;

/** Reads texts by recursion; all tokens are cut first. */
final class PlainReader {
    private static final Pattern TOKEN = Pattern.compile("[a-z]+|[0-9]+|[^ \n]");
    private static final List<String> LAW_FACTS =
        List.of("whole", "half", "wage", "floor", "gap", "bank", "month", "trade", "draw", "was");
    private static final List<String> WRITER_FACTS =
        List.of("bank", "wage", "most", "chosen", "silent", "shut", "bound", "hands", "number");
    private static final String END = "the end";

    private static final class Fault extends RuntimeException {
        private static final long serialVersionUID = 1;

        Fault() {
            super(null, null, false, false);
        }
    }

    private final List<String> tokens = new ArrayList<>();
    private final List<Integer> places = new ArrayList<>();
    private final boolean isWriter;
    private int at = 0;
    private int fault = 0;

    PlainReader(String text, boolean isWriter) {
        this.isWriter = isWriter;
        Matcher matcher = TOKEN.matcher(text);
        while (matcher.find()) {
            tokens.add(matcher.group());
            places.add(matcher.start());
        }
        tokens.add(END);
        places.add(text.length());
    }

    int fault() {
        return fault;
    }

    /** null if there is a FAULT. */
    PlainRiver.Text read() {
        PlainRiver.Text text = new PlainRiver.Text();
        try {
            while (!now().equals(END)) {
                readLine(text);
            }
            return text;
        } catch (Fault f) {
            return null;
        }
    }

    private String now() {
        return tokens.get(at);
    }

    private Fault wrong(int kind) {
        fault = kind + 16 * places.get(at);
        return new Fault();
    }

    private void eat(String token) {
        if (!now().equals(token)) {
            throw wrong(1);
        }
        at++;
    }

    private void readLine(PlainRiver.Text text) {
        String word = now();
        List<String> words = isWriter ? List.of("take", "from", "to", "tenths") : List.of("hire", "part", "shut", "opens");
        if (!words.contains(word)) {
            throw wrong(1);
        }
        if (text.lines.containsKey(word) || text.numbers.containsKey(word)) {
            throw wrong(3);
        }
        at++;
        if (List.of("take", "shut", "opens").contains(word)) {
            eat("when");
        }
        if (List.of("from", "to", "tenths").contains(word)) {
            if (!isNumber()) {
                throw wrong(1);
            }
            if (Integer.parseInt(now()) > (word.equals("tenths") ? 10 : 11)) {
                throw wrong(4);
            }
            text.numbers.put(word, Integer.parseInt(now()));
            at++;
        } else {
            text.lines.put(word, readE(0));
        }
        eat(";");
    }

    private boolean isNumber() {
        return now().matches("[0-9]{1,4}");
    }

    private PlainRiver.Node readE(int depth) {
        PlainRiver.Node node = readTest(depth);
        while (now().equals("and") || now().equals("or")) {
            boolean and = now().equals("and");
            at++;
            PlainRiver.Node left = node;
            PlainRiver.Node right = readTest(depth);
            node = f -> {
                boolean x = left.value(f) != 0;
                boolean y = right.value(f) != 0;
                return (and ? x && y : x || y) ? 1 : 0;
            };
        }
        return node;
    }

    private PlainRiver.Node readTest(int depth) {
        PlainRiver.Node left = readSum(depth);
        if (!now().equals("<") && !now().equals("=")) {
            return left;
        }
        boolean less = now().equals("<");
        at++;
        PlainRiver.Node right = readSum(depth);
        return f -> (less ? left.value(f) < right.value(f) : left.value(f) == right.value(f)) ? 1 : 0;
    }

    private PlainRiver.Node readSum(int depth) {
        PlainRiver.Node node = readProduct(depth);
        while (now().equals("+") || now().equals("-")) {
            int sign = now().equals("+") ? 1 : -1;
            at++;
            PlainRiver.Node left = node;
            PlainRiver.Node right = readProduct(depth);
            node = f -> left.value(f) + sign * right.value(f);
        }
        return node;
    }

    private PlainRiver.Node readProduct(int depth) {
        PlainRiver.Node node = readPart(depth);
        while (now().equals("*")) {
            at++;
            PlainRiver.Node left = node;
            PlainRiver.Node right = readPart(depth);
            node = f -> left.value(f) * right.value(f);
        }
        return node;
    }

    private PlainRiver.Node readPart(int depth) {
        String token = now();
        boolean isFact = (isWriter ? WRITER_FACTS : LAW_FACTS).contains(token);
        if (!isFact && !isNumber() && !token.equals("not") && !token.equals("(")) {
            throw wrong(1);
        }
        if (depth == 5) {
            throw wrong(5);
        }
        boolean isNumber = isNumber();
        at++;
        if (isFact) {
            return f -> f.get(token);
        }
        if (isNumber) {
            int number = Integer.parseInt(token);
            return f -> number;
        }
        if (token.equals("not")) {
            PlainRiver.Node part = readPart(depth + 1);
            return f -> part.value(f) == 0 ? 1 : 0;
        }
        PlainRiver.Node inner = readE(depth + 1);
        eat(")");
        return inner;
    }
}
