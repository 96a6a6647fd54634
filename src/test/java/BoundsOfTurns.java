/** Promises 27 and 28 and 'Terms' 4: each sentence that names a boundary of laid turns. */
public final class BoundsOfTurns {
    private static final int LOWEST = Integer.MIN_VALUE;
    private static final int HIGHEST = Integer.MAX_VALUE;

    /** A spring, a joint, a tank, a wheel and fields 4 .. 9. */
    private static CliffWater fields() {
        CliffWater x = new CliffWater();
        x.node(0, 1);
        x.node(1, 0);
        x.node(2, 1);
        x.node(3, 1);
        for (int v = 4; v < 10; v++) {
            x.node(4, v);
        }
        return x;
    }

    private static int bits(int... nodes) {
        int bits = 0;
        for (int v : nodes) {
            bits |= 1 << v;
        }
        return bits;
    }

    private static void isRefused(int n, int fields, int n0, int g) {
        String numbers = n + ", " + fields + ", " + n0 + ", " + g + ", ";
        Worlds.World world = FIELDS;
        Untouched.by("lay(" + numbers + "0)", world, x -> x.lay(n, fields, n0, g, 0), -1);
        Untouched.by("lay(" + numbers + "1)", world, x -> x.lay(n, fields, n0, g, 1), -1);
        Untouched.by("laid(" + numbers + "0)", world, x -> x.laid(n, fields, n0, g, 0), -1);
    }

    private static final Worlds.World FIELDS = BoundsOfTurns::fields;

    /** Changes, slots for wheels, and the row (-1 alone: there is no such way). */
    private static void turns(int n, int fields, int n0, int g, int changes, int wheels, int... row) {
        String numbers = n + ", " + fields + ", " + n0 + ", " + g + ", ";
        CliffWater x = fields();
        Due.is("lay(" + numbers + "0)", x.lay(n, fields, n0, g, 0), changes);
        Due.is("lay(" + numbers + "1)", x.lay(n, fields, n0, g, 1), wheels);
        for (int i = -1; i <= n + 1; i++) {
            Due.is("laid(" + numbers + i + ")", x.laid(n, fields, n0, g, i), i >= 0 && i < row.length ? row[i] : -1);
        }
    }

    private static void none(int n, int fields, int n0, int g) {
        turns(n, fields, n0, g, -1, -1);
    }

    private static void limits() {
        Due.sentence("Terms 4", "n SLOTS, 1 .. 8");
        turns(1, bits(4), 1, 0, 0, 0, 4);
        turns(8, bits(4), 1, 0, 0, 0, 4, 4, 4, 4, 4, 4, 4, 4);
        for (int n : new int[] {0, -1, 9, LOWEST, HIGHEST}) {
            isRefused(n, bits(4), 1, 7);
        }
        Due.sentence("Terms 4", "1 to 4 FIELDS");
        turns(4, bits(4, 5, 6, 7), 1, 3, 3, 0, 4, 5, 6, 7);
        turns(4, bits(6, 7, 8, 9), 1, 3, 3, 0, 6, 7, 8, 9);
        isRefused(8, 0, 1, 7);
        isRefused(8, bits(4, 5, 6, 7, 8), 1, 7);
        isRefused(8, bits(4, 5, 6, 7, 8, 9), 1, 7);
        Due.sentence("Terms 4", "each needs n0 SLOTS at least (1 .. 4)");
        turns(8, bits(4), 4, 7, 0, 0, 4, 4, 4, 4, 4, 4, 4, 4);
        for (int n0 : new int[] {0, -1, 5, LOWEST, HIGHEST}) {
            isRefused(8, bits(4), n0, 7);
        }
        Due.sentence("Terms 4", "a GAP g, 0 .. 7");
        turns(3, bits(9), 1, 0, 0, 0, 9, 9, 9);
        turns(3, bits(9), 1, 7, 0, 0, 9, 9, 9);
        for (int g : new int[] {-1, 8, LOWEST, HIGHEST}) {
            isRefused(8, bits(4), 1, g);
        }
        Due.sentence("Promise 27", "NONE: bits that are no FIELDS");
        for (int v : new int[] {0, 1, 2, 3, 10, 11, 30, 31}) {
            isRefused(8, bits(v), 1, 7);
            isRefused(8, bits(v, 4), 1, 7);
        }
        isRefused(8, -1, 1, 7);
        isRefused(8, HIGHEST, 1, 7);
        Untouched.by("lay(8, 256, 1, 7, 0)", Worlds.TOLD, x -> x.lay(8, 256, 1, 7, 0), -1);
        Due.is("lay(8, 128, 1, 7, 0)", Worlds.told().lay(8, 128, 1, 7, 0), 0);
        Due.sentence("Promise 27", "NONE: for another what");
        for (int what : new int[] {-1, 2, LOWEST, HIGHEST}) {
            Untouched.by("lay(8, 16, 1, 7, " + what + ")", FIELDS, x -> x.lay(8, 16, 1, 7, what), -1);
        }
        Due.sentence("Promise 28", "NONE: there is none such");
        for (int i : new int[] {-1, 5, 8, LOWEST, HIGHEST}) {
            Untouched.by("laid(5, 48, 1, 7, " + i + ")", FIELDS, x -> x.laid(5, 48, 1, 7, i), -1);
        }
        Untouched.by("laid(MIN, 48, 1, 7, 3)", FIELDS, x -> x.laid(LOWEST, 48, 1, 7, 3), -1);
        Due.is("laid(5, 48, 1, 7, 0)", fields().laid(5, 48, 1, 7, 0), 4);
        Due.is("laid(5, 48, 1, 7, 4)", fields().laid(5, 48, 1, 7, 4), 5);
    }

    private static void needs() {
        Due.sentence("Terms 4", "each needs n0 SLOTS at least");
        for (int n = 1; n <= 8; n++) {
            CliffWater x = fields();
            for (int n0 = 1; n0 <= 4; n0++) {
                Due.is("lay(" + n + ", 16, " + n0 + ", 7, 0)", x.lay(n, 16, n0, 7, 0), n0 <= n ? 0 : -1);
                Due.is("lay(" + n + ", 48, " + n0 + ", 7, 0)", x.lay(n, 48, n0, 7, 0), 2 * n0 <= n ? 1 : -1);
            }
        }
        // by 1 each the row 4 5 5 6 .. is of two changes alone; by 2 each, too; by 3 there are too few
        turns(6, bits(4, 5, 6), 2, 7, 2, 0, 4, 4, 5, 5, 6, 6);
        none(5, bits(4, 5, 6), 2, 7);
        none(8, bits(4, 5, 6), 3, 7);
        turns(8, bits(4, 5, 6, 7), 2, 7, 3, 0, 4, 4, 5, 5, 6, 6, 7, 7);
        none(7, bits(4, 5, 6, 7), 2, 7);
    }

    private static void gaps() {
        Due.sentence("Terms 4", "GAP: ahead of its first there are at most g others");
        turns(4, bits(4, 5), 1, 3, 1, 0, 4, 4, 4, 5);
        turns(4, bits(4, 5), 1, 2, 1, 0, 4, 4, 5, 5);
        Due.sentence("Terms 4", "GAP: behind its last there are at most g others");
        turns(5, bits(4, 5), 1, 4, 1, 0, 4, 4, 4, 5, 5);
        turns(6, bits(4, 5), 3, 3, 1, 0, 4, 4, 4, 5, 5, 5);
        // one change would ask for 4 others ahead of the one or behind the other
        turns(7, bits(4, 5), 1, 3, 2, 0, 4, 4, 4, 5, 4, 4, 4);
        turns(6, bits(4, 5), 1, 2, 2, 0, 4, 4, 5, 5, 4, 4);
        Due.sentence("Terms 4", "GAP: between two SLOTS of one FIELD there are at most g others");
        // with two changes four of the one would stand between two of the other
        turns(8, bits(4, 5), 4, 3, 3, 0, 4, 4, 4, 5, 5, 4, 5, 5);
        turns(8, bits(4, 5), 2, 3, 2, 0, 4, 4, 4, 5, 5, 5, 4, 4);
        Due.sentence("Terms 4", "GAP 0");
        none(2, bits(4, 5), 1, 0);
        none(8, bits(4, 5), 1, 0);
        Due.sentence("Terms 4", "GAP 7");
        // five and three SLOTS have two nights each
        turns(8, bits(4, 5), 1, 7, 1, 0, 4, 4, 4, 4, 4, 5, 5, 5);
    }

    private static void nights() {
        Due.sentence("Terms 4", "the first a day, then a night, and so on; no FIELD has more than one night more than another one");
        // 4 4 4 5 has a night each; 4 4 4 4 5 would give 4 two and 5 none
        turns(5, bits(4, 5), 1, 7, 1, 0, 4, 4, 4, 5, 5);
        turns(3, bits(4, 5), 1, 7, 1, 0, 4, 4, 5);
        turns(2, bits(4, 5), 1, 1, 1, 0, 4, 5);
        none(8, bits(4, 5), 1, 1);
        turns(3, bits(4, 5), 1, 1, 2, 0, 4, 5, 4);
    }

    private static void order() {
        Due.sentence("Terms 4", "the fewest changes; then the most SLOTS for WHEELS; then the least row");
        turns(8, bits(4, 5, 6, 7), 1, 5, 4, 2, 4, 4, 4, 5, 6, 7, 99, 99);
        turns(2, bits(5, 9), 1, 7, 1, 0, 5, 9);
        turns(8, bits(5), 1, 7, 0, 0, 5, 5, 5, 5, 5, 5, 5, 5);
    }

    private static void firstAndLastNode() {
        Due.sentence("Terms 4", "FIELDS that take part (bits of NODES)");
        CliffWater x = new CliffWater();
        for (int v = 0; v < 10; v++) {
            x.node(4, 1);
        }
        int[][] rows = {{0, 0, 0, 9}, {0, 0, 0, 1}, {8, 8, 8, 9}, {4, 4, 4, 5}};
        for (int[] row : rows) {
            int fields = bits(row[0], row[3]);
            Due.is("lay(4, " + fields + ", 1, 7, 0)", x.lay(4, fields, 1, 7, 0), 1);
            for (int i = 0; i < 4; i++) {
                Due.is("laid(4, " + fields + ", 1, 7, " + i + ")", x.laid(4, fields, 1, 7, i), row[i]);
            }
        }
        Due.is("lay(8, 1023, 1, 7, 0)", x.lay(8, 1023, 1, 7, 0), -1);
        Due.is("lay(8, 1024, 1, 7, 0)", x.lay(8, 1024, 1, 7, 0), -1);
        Due.is("lay(8, 512, 1, 7, 0)", x.lay(8, 512, 1, 7, 0), 0);
    }

    private static void oneNumberOther() {
        Due.sentence("Promise 28", "as lay(): what was asked ahead of it is nothing to a call");
        CliffWater x = fields();
        int[][] asked = {{8, 48, 1, 4, 1}, {8, 112, 1, 4, 3}, {8, 112, 1, 7, 2}, {8, 112, 3, 7, -1}, {8, 112, 2, 7, 2}, {5, 112, 2, 7, -1},
            {5, 16, 2, 7, 0}, {5, 16, 2, 8, -1}, {5, 16, 2, 7, 0}, {1, 16, 2, 7, -1}, {1, 16, 1, 7, 0}, {5, 16, 1, 7, 0}};
        for (int[] a : asked) {
            Due.is("lay(" + a[0] + ", " + a[1] + ", " + a[2] + ", " + a[3] + ", 0)", x.lay(a[0], a[1], a[2], a[3], 0), a[4]);
            Due.is("again", x.lay(a[0], a[1], a[2], a[3], 0), a[4]);
        }
    }

    public static void main(String[] args) {
        limits();
        needs();
        gaps();
        nights();
        order();
        firstAndLastNode();
        oneNumberOther();
        Due.end();
    }
}
