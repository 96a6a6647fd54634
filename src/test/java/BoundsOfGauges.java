/** Promises 29 and 30 and 'Terms' 5: each sentence that names a boundary of gauges. */
public final class BoundsOfGauges {
    private static final int LOWEST = Integer.MIN_VALUE;
    private static final int HIGHEST = Integer.MAX_VALUE;

    // told() has 9 rows, channels 0 .. 7, and it is QUARTER 153

    private static void isTaken(int... n) {
        CliffWater x = Worlds.told();
        String call = "gauge(" + n[0] + ", " + n[1] + ", " + n[2] + ", " + n[3] + ")";
        int before = x.stolen(n[0], 0, 0);
        Due.is(call, x.gauge(n[0], n[1], n[2], n[3]), 10);
        Due.is("count(8)", x.count(8), 10);
        Due.is("stolen(" + n[0] + ", 0, 0)", x.stolen(n[0], 0, 0), before + 1);
    }

    private static void isRefused(Worlds.World world, int... n) {
        String call = "gauge(" + n[0] + ", " + n[1] + ", " + n[2] + ", " + n[3] + ")";
        Untouched.by(call, world, x -> x.gauge(n[0], n[1], n[2], n[3]), -1);
    }

    private static void limitsOfGauge() {
        Due.sentence("Promise 29", "NONE: there is none such CHANNEL");
        isTaken(0, 9, 5, 5);
        isTaken(7, 9, 5, 5);
        for (int c : new int[] {-1, 8, 14, LOWEST, HIGHEST}) {
            isRefused(Worlds.TOLD, c, 9, 5, 5);
        }
        isRefused(Worlds.NEW, 0, 0, 0, 0);
        Due.sentence("Promise 29", "NONE: other numbers (quarter 0 up to now)");
        isTaken(1, 0, 5, 5);
        isTaken(1, 152, 5, 5);
        isTaken(1, 153, 5, 5);
        for (int q : new int[] {-1, 154, LOWEST, HIGHEST}) {
            isRefused(Worlds.TOLD, 1, q, 5, 5);
        }
        CliffWater x = Worlds.late(9599);
        Due.is("gauge(1, 9600, 5, 5)", x.gauge(1, 9600, 5, 5), -1);
        Due.is("gauge(1, 9599, 5, 5)", x.gauge(1, 9599, 5, 5), 10);
        Due.sentence("Terms 5", "what went in, and what came out (0 .. 9999 each)");
        isTaken(1, 9, 0, 0);
        isTaken(1, 9, 9999, 9999);
        isTaken(1, 9, 0, 9999);
        isTaken(1, 9, 9999, 0);
        for (int n : new int[] {-1, 10000, LOWEST, HIGHEST}) {
            isRefused(Worlds.TOLD, 1, 9, n, 5);
            isRefused(Worlds.TOLD, 1, 9, 5, n);
        }
        Due.sentence("Terms 5", "at most 150 rows");
        CliffWater y = Worlds.rows(149);
        Due.is("gauge", y.gauge(6, 150, 5, 5), 150);
        Due.is("gauge", y.gauge(6, 150, 5, 5), -1);
        Due.is("count(8)", y.count(8), 150);
        Due.sentence("Promise 29", "NONE: there are 150");
        isRefused(Worlds.ALL_ROWS, 0, 0, 5, 5);
        isRefused(Worlds.ALL_ROWS, 7, 153, 5, 5);
    }

    private static void limitsOfStolen() {
        Due.sentence("Promise 30", "NONE: there is none such");
        CliffWater x = Worlds.told();
        for (int c : new int[] {-1, 8, 14, LOWEST, HIGHEST}) {
            for (int what = -1; what <= 6; what++) {
                Due.is("stolen(" + c + ", 0, " + what + ")", x.stolen(c, 0, what), -1);
            }
        }
        Due.sentence("Terms 5", "within t, 0 .. 999");
        Due.is("stolen(0, 0, 0)", x.stolen(0, 0, 0), 5);
        Due.is("stolen(0, 999, 0)", x.stolen(0, 999, 0), 5);
        for (int t : new int[] {-1, 1000, LOWEST, HIGHEST}) {
            for (int what = 0; what <= 5; what++) {
                Due.is("stolen(0, " + t + ", " + what + ")", x.stolen(0, t, what), -1);
            }
        }
        Due.sentence("Promise 30", "NONE: for another what");
        for (int what : new int[] {-1, 6, LOWEST, HIGHEST}) {
            Due.is("stolen(0, 0, " + what + ")", x.stolen(0, 0, what), -1);
        }
        Untouched.by("stolen(8, 0, 0)", Worlds.TOLD, y -> y.stolen(8, 0, 0), -1);
        Untouched.by("stolen(0, 1000, 4)", Worlds.TOLD, y -> y.stolen(0, 1000, 4), -1);
        Due.sentence("Promise 30", "4: its first QUARTER (NONE without)");
        figures(x, 1, 0, 0, 0, 0, 0, -1, 0);
        // in 100, LOW 100, HIGH 250: from 75 to 90; out 70, 74, 90, -, 91, 60
        figures(x, 0, 0, 5, 1, 3, 2, 0, 5 + 1 + 15);
        figures(x, 0, 1, 5, 3, 2, 1, 0, 4 + 14);
        figures(x, 0, 4, 5, 3, 2, 1, 0, 1 + 11);
        figures(x, 0, 5, 5, 4, 1, 1, 5, 10);
        figures(x, 0, 14, 5, 4, 1, 1, 5, 1);
        figures(x, 0, 15, 5, 5, 0, 0, -1, 0);
    }

    private static void figures(CliffWater x, int channel, int t, int... want) {
        for (int what = 0; what < 6; what++) {
            Due.is("stolen(" + channel + ", " + t + ", " + what + ")", x.stolen(channel, t, what), want[what]);
        }
    }

    private static CliffWater channel(int low, int high) {
        CliffWater x = new CliffWater();
        x.node(0, 1);
        x.node(1, 0);
        x.channel(0, 1, low, high, 0, 9);
        x.go(96);
        return x;
    }

    /** One row of a channel that leaks so: whether it closes, and what lacks. */
    private static void row(int low, int high, int in, int out, int t, boolean closes, int lacks) {
        CliffWater x = channel(low, high);
        x.gauge(0, 7, in, out);
        String call = "of in " + in + ", out " + out + ", stolen(0, " + t + ", ";
        Due.is(call + "1)", x.stolen(0, t, 1), closes ? 1 : 0);
        Due.is(call + "2)", x.stolen(0, t, 2), lacks > 0 ? 1 : 0);
        Due.is(call + "3)", x.stolen(0, t, 3), lacks > 0 ? 1 : 0);
        Due.is(call + "4)", x.stolen(0, t, 4), lacks > 0 ? 7 : -1);
        Due.is(call + "5)", x.stolen(0, t, 5), lacks);
    }

    private static void rows() {
        Due.sentence("Terms 5", "A row CLOSES within t, if what came out is from IN - IN * HIGH / 1000 (cut) - t");
        row(10, 20, 999, 980, 0, true, 0);
        row(10, 20, 999, 979, 0, false, 1);
        row(10, 20, 1000, 980, 0, true, 0);
        row(10, 20, 1000, 979, 0, false, 1);
        row(10, 20, 1000, 979, 1, true, 0);
        row(10, 20, 1000, 978, 1, false, 1);
        row(0, 500, 1, 1, 0, true, 0);
        row(0, 500, 1, 0, 0, false, 1);
        row(0, 500, 1, 0, 1, true, 0);
        row(500, 500, 9999, 5000, 0, true, 0);
        row(500, 500, 9999, 4999, 0, false, 1);
        row(500, 500, 9999, 4001, 999, true, 0);
        row(500, 500, 9999, 4000, 999, false, 1);
        row(500, 500, 9999, 0, 999, false, 4001);
        row(0, 0, 999, 0, 999, true, 0);
        row(0, 0, 1000, 0, 999, false, 1);
        row(0, 0, 0, 0, 0, true, 0);
        Due.sentence("Terms 5", "to IN - IN * LOW / 1000 (cut) + t");
        row(10, 20, 999, 990, 0, true, 0);
        row(10, 20, 999, 991, 0, false, 0);
        row(10, 20, 1000, 990, 0, true, 0);
        row(10, 20, 1000, 991, 0, false, 0);
        row(10, 20, 1000, 991, 1, true, 0);
        row(10, 20, 1000, 992, 1, false, 0);
        row(0, 0, 0, 1, 0, false, 0);
        row(0, 0, 0, 999, 999, true, 0);
        row(0, 0, 0, 1000, 999, false, 0);
        row(500, 500, 9999, 5999, 999, true, 0);
        row(500, 500, 9999, 6000, 999, false, 0);
    }

    /** Rows of in 10 on a channel that does not leak, quarter by quarter: what came out. */
    private static CliffWater outs(int... outs) {
        CliffWater x = channel(0, 0);
        for (int q = 0; q < outs.length; q++) {
            if (outs[q] >= 0) {
                x.gauge(0, q, 10, outs[q]);
            }
        }
        return x;
    }

    private static void runs() {
        Due.sentence("Terms 5", "FROM: the longest run of QUARTERS one behind the other");
        figures(outs(9, 10, 8, 7), 0, 0, 4, 1, 3, 2, 2, 6);
        figures(outs(9, 9, 9, 10, 9, 9), 0, 0, 6, 1, 5, 3, 0, 5);
        figures(outs(9, 9, -1, 9, 9, 9), 0, 0, 5, 0, 5, 3, 3, 5);
        figures(outs(9, 9, 11, 9, 9, 9), 0, 0, 6, 0, 5, 3, 3, 5);
        figures(outs(9), 0, 0, 1, 0, 1, 1, 0, 1);
        Due.sentence("Terms 5", "of several the earliest one");
        figures(outs(10, 9, 9, 10, 9, 9, 10, 9), 0, 0, 8, 3, 5, 2, 1, 5);
        CliffWater back = channel(0, 0);
        for (int q = 20; q >= 0; q--) {
            back.gauge(0, q, 10, q % 3 == 0 ? 10 : 0);
        }
        figures(back, 0, 0, 21, 7, 14, 2, 1, 140);
        Due.sentence("Terms 5", "by the latest row of each QUARTER");
        CliffWater x = outs(9, 9, 9);
        x.gauge(0, 1, 10, 10);
        figures(x, 0, 0, 3, 1, 2, 1, 0, 2);
        x.gauge(0, 1, 10, 11);
        figures(x, 0, 0, 3, 0, 2, 1, 0, 2);
        x.gauge(0, 1, 10, 0);
        figures(x, 0, 0, 3, 0, 3, 3, 0, 12);
        x.gauge(0, 0, 10, 10);
        figures(x, 0, 0, 3, 1, 2, 2, 1, 11);
        Due.is("count(8)", x.count(8), 7);
        Due.sentence("Terms 5", "told later or in that QUARTER");
        x.gauge(0, 96, 10, 0);
        x.gauge(0, 95, 10, 0);
        x.gauge(0, 94, 10, 0);
        figures(x, 0, 0, 6, 1, 5, 3, 94, 41);
        Due.sentence("Terms 5", "GAUGES of a CHANNEL");
        x.channel(0, 1, 0, 0, 0, 1);
        x.gauge(1, 93, 10, 0);
        x.gauge(1, 95, 10, 10);
        figures(x, 0, 0, 6, 1, 5, 3, 94, 41);
        figures(x, 1, 0, 2, 1, 1, 1, 93, 10);
        wholeRun();
    }

    private static void wholeRun() {
        Due.sentence("Terms 5", "150 rows in one run");
        CliffWater x = channel(0, 0);
        x.go(96);
        for (int q = 0; q < 150; q++) {
            x.gauge(0, q + 20, 9999, 0);
        }
        figures(x, 0, 999, 150, 0, 150, 150, 20, 150 * 9000);
    }

    public static void main(String[] args) {
        limitsOfGauge();
        limitsOfStolen();
        rows();
        runs();
        Due.end();
    }
}
