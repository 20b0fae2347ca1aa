/** Puts texts on the TAPE. */
final class Texts {
    private Texts() {
    }

    static int feed(RiverWage x, String text) {
        int signs = x.count(6);
        for (int at = 0; at < text.length(); at += 24) {
            signs = x.feed(eight(text, at), eight(text, at + 8), eight(text, at + 16));
        }
        return signs;
    }

    static long eight(String text, int from) {
        long bytes = 0;
        for (int i = from; i < from + 8; i++) {
            bytes = bytes << 8 | (i < text.length() ? text.charAt(i) : 0);
        }
        return bytes;
    }

    static int law(RiverWage x, int law, String text) {
        feed(x, text);
        return x.law(law);
    }

    static int writer(RiverWage x, int writer, String text) {
        feed(x, text);
        return x.writer(writer);
    }

    static int fault(int kind, int place) {
        return kind + 16 * place;
    }
}
