import java.util.HashMap;
import java.util.Map;

/**
 * That a refused call changes nothing: two objects are made in the same way, and one of them is told
 * the call; then whatever is asked of them, or done with them, answers alike. Each row of askings is
 * put to objects of its own, so that none has more than 512 calls.
 */
final class Untouched {
    interface Call {
        long on(CliffWater x);
    }

    private interface Asking {
        void put(CliffWater x, Answers to);
    }

    private static final Asking[] ASKINGS = {
        Untouched::figures, Untouched::channels, Untouched::paths, Untouched::deeds0, Untouched::deeds40,
        Untouched::deeds80, Untouched::holders, Untouched::owners, Untouched::hours, Untouched::dryWeeks,
        Untouched::tapeLength, Untouched::tapeBytes, Untouched::statute, Untouched::image0, Untouched::image1,
        Untouched::image2, Untouched::gauges, Untouched::turns, Untouched::laterQuarters, Untouched::laterDays};
    private static final Map<Worlds.World, String[]> KNOWN = new HashMap<>();

    private Untouched() {
    }

    /** The call is refused with this answer, and nothing is changed by it. */
    static void by(String call, Worlds.World world, Call refused, long answer) {
        Due.is(call, refused.on(world.make()), answer);
        String[] before = KNOWN.computeIfAbsent(world, w -> answersOf(w, null));
        String[] after = answersOf(world, refused);
        for (int i = 0; i < ASKINGS.length; i++) {
            Due.same(call, after[i], before[i]);
        }
    }

    private static String[] answersOf(Worlds.World world, Call first) {
        String[] all = new String[ASKINGS.length];
        for (int i = 0; i < all.length; i++) {
            CliffWater x = world.make();
            if (first != null) {
                first.on(x);
            }
            Answers answers = new Answers();
            ASKINGS[i].put(x, answers);
            all[i] = answers.rows.toString();
        }
        return all;
    }

    private static final class Answers {
        final StringBuilder rows = new StringBuilder();

        void put(String call, long answer) {
            rows.append(call).append(" answers ").append(answer).append('\n');
        }

        void put(String call, boolean answer) {
            put(call, Due.bit(answer));
        }
    }

    private static void figures(CliffWater x, Answers to) {
        for (int what = 0; what <= 10; what++) {
            to.put("count(" + what + ")", x.count(what));
        }
        to.put("fault(0)", x.fault(0));
        to.put("fault(1)", x.fault(1));
        for (int what = 0; what <= 6; what++) {
            to.put("all(" + what + ", false)", x.all(what, false));
            to.put("all(" + what + ", true)", x.all(what, true));
        }
        for (int v = 0; v < 10; v++) {
            for (int what = 0; what < 5; what++) {
                to.put("about(" + v + ", " + what + ")", x.about(v, what));
            }
        }
    }

    private static void channels(CliffWater x, Answers to) {
        for (int c = 0; c < 14; c++) {
            for (int what = 0; what < 9; what++) {
                to.put("look(" + c + ", " + what + ")", x.look(c, what));
            }
        }
    }

    private static void paths(CliffWater x, Answers to) {
        for (int v = 0; v < 10; v++) {
            for (int w = v + 1; w < 10; w++) {
                to.put("path(" + v + ", " + w + ")", x.path(v, w));
                to.put("along(" + v + ", " + w + ", 0)", x.along(v, w, 0));
                to.put("along(" + v + ", " + w + ", 1)", x.along(v, w, 1));
            }
        }
    }

    private static void deeds0(CliffWater x, Answers to) {
        deeds(x, to, 0);
    }

    private static void deeds40(CliffWater x, Answers to) {
        deeds(x, to, 40);
    }

    private static void deeds80(CliffWater x, Answers to) {
        deeds(x, to, 80);
    }

    private static void deeds(CliffWater x, Answers to, int from) {
        for (int d = from; d < from + 40; d++) {
            for (int what = 0; what < 6; what++) {
                to.put("written(" + d + ", " + what + ")", x.written(d, what));
            }
        }
    }

    private static void holders(CliffWater x, Answers to) {
        for (int h = 0; h < 8; h++) {
            to.put("owed(" + h + ")", x.owed(h));
            to.put("duty(9999, 1, " + h + ")", x.duty(9999, 1, h));
            for (int what = 0; what < 6; what++) {
                to.put("holder(" + h + ", 0, " + what + ")", x.holder(h, 0, what));
                to.put("holder(" + h + ", 99, " + what + ")", x.holder(h, 99, what));
            }
        }
    }

    private static void owners(CliffWater x, Answers to) {
        int today = x.count(4);
        for (int h = 0; h < 168; h++) {
            to.put("owner(" + h + ", 1, " + today + ")", x.owner(h, 1, today));
        }
        for (int h = 0; h < 60; h++) {
            to.put("owner(" + h + ", 0, 0)", x.owner(h, 0, 0));
        }
    }

    private static void hours(CliffWater x, Answers to) {
        int begun = x.count(6);
        for (int i = 0; i < 100; i++) {
            to.put("ran(" + i + ")", x.ran(i));
        }
        for (int i = begun - 40; i < begun + 3; i++) {
            to.put("ran(" + i + ")", x.ran(i));
        }
    }

    private static void dryWeeks(CliffWater x, Answers to) {
        Texts.statute(x, "if dry:cut 7;");
        for (int w = 0; w < 100; w++) {
            to.put("holder(0, " + w + ", 3)", x.holder(0, w, 3));
        }
    }

    private static void tapeLength(CliffWater x, Answers to) {
        to.put("feed(0, 0, 0, 0, 0)", x.feed(0, 0, 0, 0, 0));
        for (int n = 500; n > 480; n--) {
            to.put("end(" + n + ")", x.end(n));
        }
    }

    /** What stands on the tape is seen by the texts that it begins with. */
    private static void tapeBytes(CliffWater x, Answers to) {
        x.image(2);
        for (int n = 1; n <= 500; n += n < 40 ? 1 : 16) {
            to.put("end(" + n + ")", x.end(n));
            to.put("statute()", x.statute());
            to.put("fault(1)", x.fault(1));
            x.again(2);
        }
    }

    private static void statute(CliffWater x, Answers to) {
        to.put("statute()", x.statute());
        to.put("fault(0)", x.fault(0));
        to.put("fault(1)", x.fault(1));
        to.put("count(7)", x.count(7));
        to.put("the tape is empty then, end(1)", x.end(1));
        for (int h = 0; h < 8; h++) {
            to.put("holder(" + h + ", 1, 2)", x.holder(h, 1, 2));
            to.put("holder(" + h + ", 3, 3)", x.holder(h, 3, 3));
        }
    }

    private static void image0(CliffWater x, Answers to) {
        image(x, to, 0);
    }

    private static void image1(CliffWater x, Answers to) {
        image(x, to, 1);
    }

    private static void image2(CliffWater x, Answers to) {
        image(x, to, 2);
    }

    private static void image(CliffWater x, Answers to, int k) {
        to.put("again(" + k + ")", x.again(k));
        figures(x, to);
        for (int c = 0; c < 14; c++) {
            to.put("look(" + c + ", 7)", x.look(c, 7));
            to.put("look(" + c + ", 8)", x.look(c, 8));
        }
        for (int h = 0; h < 8; h++) {
            to.put("owed(" + h + ")", x.owed(h));
            to.put("holder(" + h + ", 0, 2)", x.holder(h, 0, 2));
        }
    }

    private static void gauges(CliffWater x, Answers to) {
        for (int c = 0; c < 14; c++) {
            for (int what = 0; what < 6; what++) {
                to.put("stolen(" + c + ", 0, " + what + ")", x.stolen(c, 0, what));
                to.put("stolen(" + c + ", 15, " + what + ")", x.stolen(c, 15, what));
            }
        }
    }

    private static void turns(CliffWater x, Answers to) {
        int[][] asked = {{8, 224, 2, 4}, {7, 32, 4, 3}, {5, 96, 1, 7}, {8, 160, 1, 7}, {4, 224, 1, 3}, {8, 224, 4, 7}};
        for (int[] a : asked) {
            String call = a[0] + ", " + a[1] + ", " + a[2] + ", " + a[3] + ", ";
            to.put("lay(" + call + "0)", x.lay(a[0], a[1], a[2], a[3], 0));
            to.put("lay(" + call + "1)", x.lay(a[0], a[1], a[2], a[3], 1));
            for (int i = 0; i < 8; i++) {
                to.put("laid(" + call + i + ")", x.laid(a[0], a[1], a[2], a[3], i));
            }
        }
    }

    private static void laterQuarters(CliffWater x, Answers to) {
        for (int n = 1; n <= 10; n++) {
            to.put("go(1)", x.go(1));
            for (int what = 1; what <= 6; what++) {
                to.put("later all(" + what + ", false)", x.all(what, false));
                to.put("later all(" + what + ", true)", x.all(what, true));
            }
        }
    }

    private static void laterDays(CliffWater x, Answers to) {
        for (int n = 1; n <= 8; n++) {
            to.put("go(96)", x.go(96));
            to.put("later ran", x.ran(x.count(6) - 1));
            for (int v = 0; v < 10; v++) {
                to.put("later about(" + v + ", 2)", x.about(v, 2));
                to.put("later about(" + v + ", 4)", x.about(v, 4));
            }
        }
        for (int h = 0; h < 8; h++) {
            to.put("later owed(" + h + ")", x.owed(h));
        }
    }
}
