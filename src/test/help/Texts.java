/** Texts on the tape. */
final class Texts {
    private Texts() {
    }

    /** Number i of the twenty bytes of a text from a place on; behind the text's end come zeros. */
    static int number(String text, int from, int i) {
        int n = 0;
        for (int j = from + 4 * i; j < from + 4 * i + 4; j++) {
            n = n << 8 | (j < text.length() ? text.charAt(j) & 255 : 0);
        }
        return n;
    }

    static int feed(CliffWater x, String text, int from) {
        return x.feed(number(text, from, 0), number(text, from, 1), number(text, from, 2), number(text, from, 3),
            number(text, from, 4));
    }

    /** The tape has this text alone. */
    static void tape(CliffWater x, String text) {
        x.end(0);
        for (int from = 0; from < text.length(); from += 20) {
            Due.is("feed of " + text, feed(x, text, from), from + 20);
        }
        Due.is("end of " + text, x.end(text.length()), text.length());
    }

    static int statute(CliffWater x, String text) {
        tape(x, text);
        return x.statute();
    }

    /** A text that is taken, of so many lines. */
    static void law(CliffWater x, String text, int lines) {
        Due.is("statute() of " + text, statute(x, text), lines);
        Due.is("fault(0) of " + text, x.fault(0), 0);
        Due.is("fault(1) of " + text, x.fault(1), -1);
    }

    /** A text that is refused, with its fault. */
    static void fault(CliffWater x, String text, int kind, int place) {
        Due.is("statute() of " + text, statute(x, text), -1);
        Due.is("fault(0) of " + text, x.fault(0), kind);
        Due.is("fault(1) of " + text, x.fault(1), place);
    }
}
