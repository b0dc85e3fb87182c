/** Texts as the tape takes them. */
final class TapeWriter {
    private TapeWriter() {
    }

    /** Four bytes of a text as one number; behind its end stands what no list may have. */
    static int four(String text, int at) {
        int sum = 0;
        for (int i = at; i < at + 4; i++) {
            sum = sum << 8 | (i < text.length() ? text.charAt(i) & 255 : '?');
        }
        return sum;
    }

    /** Puts a text behind the tape, to the byte: what end() answered. */
    static int write(GrainHouse x, String text) {
        int had = (int) x.about(9);
        for (int i = 0; i < text.length(); i += 20) {
            x.feed(four(text, i), four(text, i + 4), four(text, i + 8), four(text, i + 12), four(text, i + 16));
        }
        return x.end(had + text.length());
    }
}
