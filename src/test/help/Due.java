/** Counts the answers that are not as due, each told with the sentence of the document that asks for it. */
final class Due {
    private static int sentences = 0;
    private static int wrong = 0;
    private static String words = "";

    private Due() {
    }

    /** What is due from here on, is due by these words of the document. */
    static void sentence(String place, String sentence) {
        words = place + ": " + sentence;
        sentences++;
    }

    static void is(String call, long got, long want) {
        if (got != want) {
            tell(call + " answered " + got + ", due is " + want);
        }
    }

    static void is(String call, boolean got, boolean want) {
        is(call, bit(got), bit(want));
    }

    /** Two rows of answers to the same calls, of which the first other one is told. */
    static void same(String call, String got, String want) {
        String[] is = got.split("\n");
        String[] due = want.split("\n");
        for (int i = 0; i < Math.max(is.length, due.length); i++) {
            String a = i < is.length ? is[i] : "nothing";
            String b = i < due.length ? due[i] : "nothing";
            if (!a.equals(b)) {
                tell("after " + call + ": " + a + ", without it: " + b);
                return;
            }
        }
    }

    static long bit(boolean is) {
        return is ? 1 : 0;
    }

    private static void tell(String what) {
        wrong++;
        System.out.println("[" + words + "] " + what);
    }

    static void end() {
        System.out.println(wrong == 0 ? sentences + " sentences hold" : wrong + " answers are not as due");
        if (wrong != 0) {
            System.exit(1);
        }
    }
}
