/** Promises 2 to 8 and 10 to 12, and 'Terms' 1: each sentence that names a boundary of nodes and channels. */
public final class BoundsOfNet {
    private static final int LOWEST = Integer.MIN_VALUE;
    private static final int HIGHEST = Integer.MAX_VALUE;
    private static final int[][] SIZES = {{0, 0, 999}, {1, 0, 0}, {2, 1, 99999}, {3, 1, 500}, {4, 1, 99999}};

    private static void kindsAndSizes() {
        for (int[] s : SIZES) {
            Due.sentence("Terms 1", "NODES are of a KIND with a SIZE: " + s[0] + ", " + s[1] + " .. " + s[2]);
            nodeIsTaken(s[0], s[1]);
            nodeIsTaken(s[0], s[2]);
            for (int size : new int[] {s[1] - 1, s[2] + 1, LOWEST, HIGHEST}) {
                nodeIsRefused(Worlds.TOLD, s[0], size);
            }
        }
        Due.sentence("Promise 2", "NONE: another KIND");
        for (int kind : new int[] {-1, 5, LOWEST, HIGHEST}) {
            nodeIsRefused(Worlds.TOLD, kind, 0);
            nodeIsRefused(Worlds.TOLD, kind, 1);
        }
    }

    private static void nodeIsTaken(int kind, int size) {
        CliffWater x = Worlds.told();
        Due.is("node(" + kind + ", " + size + ")", x.node(kind, size), 8);
        int[] about = {kind, size, -1, 0, 0};
        for (int what = 0; what < 5; what++) {
            Due.is("about(8, " + what + ")", x.about(8, what), about[what]);
        }
        Due.is("count(0)", x.count(0), 9);
        Due.is("about(9, 0)", x.about(9, 0), -2);
    }

    private static void nodeIsRefused(Worlds.World world, int kind, int size) {
        Untouched.by("node(" + kind + ", " + size + ")", world, x -> x.node(kind, size), -1);
    }

    private static void tenNodes() {
        Due.sentence("Terms 1", "NODES, at most 10, from 0 on");
        CliffWater x = new CliffWater();
        for (int v = 0; v < 10; v++) {
            Due.is("node " + v, x.node(v % 5, v % 5 == 1 ? 0 : 1), v);
        }
        Due.is("the last one's kind", x.about(9, 0), 4);
        Due.is("count(0)", x.count(0), 10);
        Due.sentence("Promise 2", "NONE: there are 10");
        for (int[] s : SIZES) {
            nodeIsRefused(Worlds.TEN_NODES, s[0], s[1]);
        }
        nodeIsRefused(Worlds.TEN_NODES, 5, 0);
    }

    // Channels: from, to, low, high, travel, breadth; told() has nodes 0 .. 7 (5 .. 7 are fields), channels 0 .. 7

    private static void isTaken(int... n) {
        CliffWater x = Worlds.told();
        String call = "channel(" + n[0] + ", " + n[1] + ", " + n[2] + ", " + n[3] + ", " + n[4] + ", " + n[5] + ")";
        Due.is(call, x.channel(n[0], n[1], n[2], n[3], n[4], n[5]), 8);
        for (int what = 0; what < 6; what++) {
            Due.is(call + ", look(8, " + what + ")", x.look(8, what), n[what]);
        }
        for (int what = 6; what < 9; what++) {
            Due.is(call + ", look(8, " + what + ")", x.look(8, what), 0);
        }
        Due.is("count(1)", x.count(1), 9);
    }

    private static void isRefused(int... n) {
        String call = "channel(" + n[0] + ", " + n[1] + ", " + n[2] + ", " + n[3] + ", " + n[4] + ", " + n[5] + ")";
        Untouched.by(call, Worlds.TOLD, x -> x.channel(n[0], n[1], n[2], n[3], n[4], n[5]), -1);
    }

    private static void endsOfChannels() {
        Due.sentence("Promise 3", "NONE: no such NODES");
        isTaken(0, 7, 0, 0, 0, 1);
        isRefused(-1, 7, 0, 0, 0, 1);
        isRefused(0, 8, 0, 0, 0, 1);
        isRefused(-2, -1, 0, 0, 0, 1);
        isRefused(8, 9, 0, 0, 0, 1);
        isRefused(LOWEST, 7, 0, 0, 0, 1);
        isRefused(0, HIGHEST, 0, 0, 0, 1);
        Due.sentence("Promise 3", "NONE: from is not less than to");
        isTaken(2, 3, 0, 0, 0, 1);
        isRefused(2, 2, 0, 0, 0, 1);
        isRefused(3, 2, 0, 0, 0, 1);
        isRefused(0, 0, 0, 0, 0, 1);
        isRefused(7, 0, 0, 0, 0, 1);
        Due.sentence("Promise 3", "NONE: from is a FIELD");
        isTaken(4, 5, 0, 0, 0, 1);
        isRefused(5, 6, 0, 0, 0, 1);
        isRefused(5, 7, 0, 0, 0, 1);
        isRefused(6, 7, 0, 0, 0, 1);
    }

    private static void numbersOfChannels() {
        Due.sentence("Terms 1", "LOW and HIGH leak, thousandths, 0 .. 500");
        isTaken(0, 1, 0, 0, 3, 9);
        isTaken(0, 1, 0, 500, 3, 9);
        isTaken(0, 1, 500, 500, 3, 9);
        isRefused(0, 1, -1, 0, 3, 9);
        isRefused(0, 1, -1, -1, 3, 9);
        isRefused(0, 1, 0, 501, 3, 9);
        isRefused(0, 1, 501, 501, 3, 9);
        isRefused(0, 1, LOWEST, 500, 3, 9);
        isRefused(0, 1, 0, HIGHEST, 3, 9);
        Due.sentence("Terms 1", "LOW not above HIGH");
        isTaken(0, 1, 200, 200, 3, 9);
        isTaken(0, 1, 200, 201, 3, 9);
        isRefused(0, 1, 201, 200, 3, 9);
        isRefused(0, 1, 500, 0, 3, 9);
        isRefused(0, 1, 500, LOWEST, 3, 9);
        Due.sentence("Terms 1", "TRAVEL, 0 .. 8 QUARTERS");
        isTaken(0, 1, 7, 70, 0, 9);
        isTaken(0, 1, 7, 70, 8, 9);
        isRefused(0, 1, 7, 70, -1, 9);
        isRefused(0, 1, 7, 70, 9, 9);
        isRefused(0, 1, 7, 70, LOWEST, 9);
        isRefused(0, 1, 7, 70, HIGHEST, 9);
        Due.sentence("Terms 1", "BREADTH, 1 .. 9999 litres a QUARTER");
        isTaken(0, 1, 7, 70, 1, 1);
        isTaken(0, 1, 7, 70, 1, 9999);
        isRefused(0, 1, 7, 70, 1, 0);
        isRefused(0, 1, 7, 70, 1, 10000);
        isRefused(0, 1, 7, 70, 1, LOWEST);
        isRefused(0, 1, 7, 70, 1, HIGHEST);
    }

    private static void fourteenChannels() {
        Due.sentence("Terms 1", "CHANNELS, at most 14, from 0 on");
        CliffWater x = new CliffWater();
        x.node(1, 0);
        x.node(1, 0);
        for (int c = 0; c < 14; c++) {
            Due.is("channel " + c, x.channel(0, 1, 0, c, 0, 1), c);
        }
        Due.is("the last one's HIGH", x.look(13, 3), 13);
        Due.is("count(1)", x.count(1), 14);
        Due.sentence("Promise 3", "NONE: there are 14");
        Untouched.by("channel(0, 1, 0, 0, 0, 1)", Worlds.ALL_CHANNELS, y -> y.channel(0, 1, 0, 0, 0, 1), -1);
        Untouched.by("channel(-1, 1, 0, 0, 0, 1)", Worlds.ALL_CHANNELS, y -> y.channel(-1, 1, 0, 0, 0, 1), -1);
    }

    // Size

    private static void sizeIsTaken(int node, int size) {
        CliffWater x = Worlds.told();
        Due.is("size(" + node + ", " + size + ")", x.size(node, size), true);
        Due.is("about(" + node + ", 1)", x.about(node, 1), size);
    }

    private static void sizeIsRefused(Worlds.World world, int node, int size) {
        Untouched.by("size(" + node + ", " + size + ")", world, x -> Due.bit(x.size(node, size)), 0);
    }

    private static void sizes() {
        int[] nodes = {0, 2, 3, 4, 5};
        for (int[] s : SIZES) {
            int v = nodes[s[0]];
            Due.sentence("Promise 4", "false: it can't be; KIND " + s[0] + ", SIZE " + s[1] + " .. " + s[2]);
            if (s[0] != 2) {
                sizeIsTaken(v, s[1]);
            }
            sizeIsTaken(v, s[2]);
            for (int size : new int[] {s[1] - 1, s[2] + 1, LOWEST, HIGHEST}) {
                sizeIsRefused(Worlds.TOLD, v, size);
            }
        }
        Due.sentence("Promise 4", "false: there is none such");
        for (int v : new int[] {-1, 8, 9, 10, LOWEST, HIGHEST}) {
            sizeIsRefused(Worlds.TOLD, v, 1);
            sizeIsRefused(Worlds.TOLD, v, 0);
        }
        sizeIsRefused(Worlds.NEW, 0, 0);
    }

    /** Holds 160 in LEAST, 180 in MOST. */
    private static CliffWater tank() {
        CliffWater x = new CliffWater();
        x.node(0, 100);
        x.node(2, 500);
        x.node(2, 1);
        x.channel(0, 1, 100, 200, 0, 999);
        x.open(0, 0);
        x.go(2);
        return x;
    }

    private static void sizeOfTanks() {
        Due.sentence("Promise 4", "of a TANK: not below what it holds in MOST");
        Worlds.World world = BoundsOfNet::tank;
        for (int size : new int[] {1, 159, 160, 161, 179}) {
            sizeIsRefused(world, 1, size);
        }
        CliffWater x = tank();
        Due.is("size(1, 180)", x.size(1, 180), true);
        Due.is("size(1, 180)", x.size(1, 180), true);
        Due.is("size(1, 179)", x.size(1, 179), false);
        Due.is("size(1, 181)", x.size(1, 181), true);
        Due.is("size(1, 180)", x.size(1, 180), true);
        x.go(1);
        Due.is("held in LEAST", x.about(1, 3), 180);
        Due.is("held in MOST", x.about(1, 4), 180);
        Due.is("SPILT in LEAST", x.all(4, false), 60);
        Due.is("SPILT in MOST", x.all(4, true), 90);
        Due.is("an empty one, size(2, 99999)", x.size(2, 99999), true);
        Due.is("an empty one, size(2, 1)", x.size(2, 1), true);
        Due.is("an empty one, size(2, 0)", x.size(2, 0), false);
        Due.sentence("Promise 4", "SIZE of a NODE from now on");
        x.size(0, 0);
        x.go(1);
        Due.is("what a SPRING gave", x.about(0, 4), 300);
        x.size(0, 999);
        x.go(1);
        Due.is("what a SPRING gave", x.about(0, 4), 1299);
    }

    // Breaks and gates; told() has channel 7 broken alone

    private static void breaks() {
        Due.sentence("Promise 5", "false: there is none such");
        for (int c : new int[] {-1, 8, 14, LOWEST, HIGHEST}) {
            Untouched.by("broken(" + c + ", true)", Worlds.TOLD, x -> Due.bit(x.broken(c, true)), 0);
            Untouched.by("broken(" + c + ", false)", Worlds.TOLD, x -> Due.bit(x.broken(c, false)), 0);
        }
        Due.sentence("Promise 5", "false: it is so");
        Untouched.by("broken(0, false)", Worlds.TOLD, x -> Due.bit(x.broken(0, false)), 0);
        Untouched.by("broken(7, true)", Worlds.TOLD, x -> Due.bit(x.broken(7, true)), 0);
        Untouched.by("broken(7, true) twice", Worlds.TOLD, x -> Due.bit(x.broken(7, true) || x.broken(7, true)), 0);
        Due.sentence("Promise 5", "A CHANNEL BREAKS, or is mended: true");
        CliffWater x = Worlds.told();
        Due.is("broken(0, true)", x.broken(0, true), true);
        Due.is("broken(0, true)", x.broken(0, true), false);
        Due.is("look(0, 6)", x.look(0, 6), 1);
        Due.is("count(9)", x.count(9), 2);
        Due.is("broken(7, false)", x.broken(7, false), true);
        Due.is("broken(7, false)", x.broken(7, false), false);
        Due.is("look(7, 6)", x.look(7, 6), 0);
        Due.is("count(9)", x.count(9), 1);
    }

    private static void gates() {
        Due.sentence("Promise 6", "false: there is none such NODE");
        for (int v : new int[] {-1, 8, 10, LOWEST, HIGHEST}) {
            Untouched.by("open(" + v + ", -1)", Worlds.TOLD, x -> Due.bit(x.open(v, -1)), 0);
            Untouched.by("open(" + v + ", 0)", Worlds.TOLD, x -> Due.bit(x.open(v, 0)), 0);
        }
        Due.sentence("Promise 6", "false: it does not lead from it");
        int[][] wrong = {{0, 1}, {2, 0}, {2, 1}, {5, 4}, {7, 7}, {0, 8}, {0, -2}, {0, 14}, {0, LOWEST}, {0, HIGHEST}};
        for (int[] n : wrong) {
            Untouched.by("open(" + n[0] + ", " + n[1] + ")", Worlds.TOLD, x -> Due.bit(x.open(n[0], n[1])), 0);
        }
        Due.sentence("Promise 6", "A CHANNEL of a NODE is OPEN (NONE: none): true");
        int[][] right = {{0, -1}, {0, 0}, {2, 7}, {2, 2}, {4, 5}, {4, -1}, {7, -1}, {5, -1}};
        CliffWater x = Worlds.told();
        for (int[] n : right) {
            Due.is("open(" + n[0] + ", " + n[1] + ")", x.open(n[0], n[1]), true);
            Due.is("about(" + n[0] + ", 2)", x.about(n[0], 2), n[1]);
            Due.is("open(" + n[0] + ", " + n[1] + ") again", x.open(n[0], n[1]), true);
        }
    }

    // Paths

    /** Ten nodes in a row, each with a channel of travel 8 to the next. */
    private static CliffWater row() {
        CliffWater x = new CliffWater();
        for (int v = 0; v < 10; v++) {
            x.node(1, 0);
        }
        for (int v = 0; v < 9; v++) {
            x.channel(v, v + 1, 0, 0, 8, 1);
        }
        return x;
    }

    private static void paths() {
        Due.sentence("Promise 7", "TRAVEL of the PATH between two NODES");
        CliffWater x = row();
        Due.is("path(0, 9)", x.path(0, 9), 72);
        Due.is("path(8, 9)", x.path(8, 9), 8);
        Due.is("path(0, 1)", x.path(0, 1), 8);
        Due.sentence("Promise 7", "NONE: there is none (such)");
        int[][] none = {{1, 0}, {9, 0}, {-1, 0}, {-1, 9}, {0, 10}, {0, -1}, {10, 0}, {10, 11}, {LOWEST, 9}, {0, HIGHEST}};
        for (int[] n : none) {
            Due.is("path(" + n[0] + ", " + n[1] + ")", x.path(n[0], n[1]), -1);
            Due.is("along(" + n[0] + ", " + n[1] + ", 0)", x.along(n[0], n[1], 0), -1);
        }
        int[][] ofTold = {{5, 0}, {-1, 5}, {0, 8}, {0, 1}, {5, 6}, {3, 3}, {LOWEST, HIGHEST}};
        for (int[] n : ofTold) {
            Untouched.by("path(" + n[0] + ", " + n[1] + ")", Worlds.TOLD, y -> y.path(n[0], n[1]), -1);
            Untouched.by("along(" + n[0] + ", " + n[1] + ", 0)", Worlds.TOLD, y -> y.along(n[0], n[1], 0), -1);
        }
        Due.sentence("Promise 7", "NONE: they are one");
        for (int v = -1; v <= 10; v++) {
            Due.is("path(" + v + ", " + v + ")", x.path(v, v), -1);
            Due.is("along(" + v + ", " + v + ", 0)", x.along(v, v, 0), -1);
        }
        Due.sentence("Terms 1", "A PATH: CHANNELS one behind the other, none BROKEN");
        x.broken(8, true);
        Due.is("path(0, 9)", x.path(0, 9), -1);
        Due.is("path(0, 8)", x.path(0, 8), 64);
        x.broken(8, false);
        x.broken(0, true);
        Due.is("path(0, 9)", x.path(0, 9), -1);
        Due.is("path(1, 9)", x.path(1, 9), 64);
        Due.sentence("Promise 7", "TRAVEL 0 is no NONE");
        x.channel(0, 9, 0, 0, 0, 1);
        Due.is("path(0, 9)", x.path(0, 9), 0);
    }

    private static void along() {
        Due.sentence("Promise 8", "CHANNEL i of it, from 0 on. NONE: there is none such");
        CliffWater x = row();
        for (int v = 0; v < 9; v++) {
            for (int i = 0; i < 9 - v; i++) {
                Due.is("along(" + v + ", 9, " + i + ")", x.along(v, 9, i), v + i);
            }
            for (int i : new int[] {-1, 9 - v, LOWEST, HIGHEST}) {
                Due.is("along(" + v + ", 9, " + i + ")", x.along(v, 9, i), -1);
            }
        }
        for (int i : new int[] {-1, 4, LOWEST, HIGHEST}) {
            Untouched.by("along(0, 5, " + i + ")", Worlds.TOLD, y -> y.along(0, 5, i), -1);
        }
        for (int w = 1; w < 9; w++) {
            Due.is("along(0, " + w + ", " + (w - 1) + ")", x.along(0, w, w - 1), w - 1);
            Due.is("along(0, " + w + ", " + w + ")", x.along(0, w, w), -1);
        }
    }

    private static void rowIs(CliffWater x, int travel, int... row) {
        Due.is("path(0, 5)", x.path(0, 5), travel);
        for (int i = 0; i <= row.length; i++) {
            Due.is("along(0, 5, " + i + ")", x.along(0, 5, i), i < row.length ? row[i] : -1);
        }
    }

    private static void bestPaths() {
        CliffWater x = new CliffWater();
        for (int v = 0; v < 6; v++) {
            x.node(1, 0);
        }
        Due.sentence("Terms 1", "that with the least TRAVEL together");
        x.channel(0, 5, 0, 0, 5, 1); // 0
        rowIs(x, 5, 0);
        x.channel(0, 2, 0, 0, 3, 1); // 1
        x.channel(2, 5, 0, 0, 1, 1); // 2
        rowIs(x, 4, 1, 2);
        Due.sentence("Terms 1", "of several the one of the fewest CHANNELS");
        x.channel(0, 1, 0, 0, 0, 1); // 3
        x.channel(1, 2, 0, 0, 3, 1); // 4
        rowIs(x, 4, 1, 2);
        x.channel(0, 5, 0, 0, 4, 1); // 5
        rowIs(x, 4, 5);
        x.broken(5, true);
        Due.sentence("Terms 1", "then the least row");
        x.channel(0, 2, 0, 0, 3, 1); // 6
        x.channel(2, 5, 0, 0, 1, 1); // 7
        rowIs(x, 4, 1, 2);
        x.broken(1, true);
        rowIs(x, 4, 6, 2);
        x.broken(2, true);
        rowIs(x, 4, 6, 7);
        x.channel(1, 5, 0, 0, 4, 1); // 8
        rowIs(x, 4, 3, 8);
        x.broken(2, false);
        rowIs(x, 4, 3, 8);
        x.broken(1, false);
        rowIs(x, 4, 1, 2);
        x.broken(0, true);
        x.broken(1, true);
        x.broken(3, true);
        x.broken(6, true);
        Due.sentence("Terms 1", "none BROKEN");
        rowIs(x, -1);
    }

    private static void answersOfAbout() {
        Due.sentence("Promise 10", "-2 if there is none such");
        for (int v : new int[] {-1, 8, 9, 10, LOWEST, HIGHEST}) {
            for (int what = -1; what <= 5; what++) {
                int w = what;
                Due.is("about(" + v + ", " + w + ")", Worlds.told().about(v, w), -2);
            }
        }
        Untouched.by("about(8, 0)", Worlds.TOLD, x -> x.about(8, 0), -2);
        Due.is("about(0, 0) of a new object", new CliffWater().about(0, 0), -2);
        Due.sentence("Promise 10", "-2 for another what");
        CliffWater x = Worlds.told();
        for (int v = 0; v < 8; v++) {
            for (int what : new int[] {-1, 5, LOWEST, HIGHEST}) {
                Due.is("about(" + v + ", " + what + ")", x.about(v, what), -2);
            }
        }
        Due.sentence("Promise 10", "0 of a JOINT");
        Due.is("about(2, 3)", x.about(2, 3), 0);
        Due.is("about(2, 4)", x.about(2, 4), 0);
        Due.is("what a SPRING gave, about(0, 3)", x.about(0, 3), 15300);
        Due.is("what a SPRING gave, about(1, 4)", x.about(1, 4), 4590);
    }

    private static void answersOfLook() {
        Due.sentence("Promise 11", "-2 if there is none such");
        CliffWater x = Worlds.told();
        for (int c : new int[] {-1, 8, 13, 14, LOWEST, HIGHEST}) {
            for (int what = -1; what <= 9; what++) {
                Due.is("look(" + c + ", " + what + ")", x.look(c, what), -2);
            }
        }
        Untouched.by("look(8, 7)", Worlds.TOLD, y -> y.look(8, 7), -2);
        Due.is("look(0, 0) of a new object", new CliffWater().look(0, 0), -2);
        Due.sentence("Promise 11", "-2 for another what");
        for (int c = 0; c < 8; c++) {
            for (int what : new int[] {-1, 9, LOWEST, HIGHEST}) {
                Due.is("look(" + c + ", " + what + ")", x.look(c, what), -2);
            }
        }
        Due.sentence("Promise 11", "what 0: from, 1: to, 2: LOW, 3: HIGH, 4: TRAVEL, 5: BREADTH, 6: 1 if BROKEN, else 0");
        int[] seven = {2, 7, 0, 0, 1, 9, 1};
        int[] zero = {0, 2, 100, 250, 2, 90, 0};
        for (int what = 0; what < 7; what++) {
            Due.is("look(7, " + what + ")", x.look(7, what), seven[what]);
            Due.is("look(0, " + what + ")", x.look(0, what), zero[what]);
        }
        Due.sentence("Promise 11", "7, 8: what is under way in LEAST, in MOST");
        Due.is("look(0, 7)", x.look(0, 7), 2 * 68);
        Due.is("look(0, 8)", x.look(0, 8), 2 * 81);
    }

    private static void answersOfAll() {
        Due.sentence("Promise 12", "NONE for another what");
        CliffWater x = Worlds.told();
        for (int what : new int[] {-1, 7, LOWEST, HIGHEST}) {
            Due.is("all(" + what + ", false)", x.all(what, false), -1);
            Due.is("all(" + what + ", true)", x.all(what, true), -1);
        }
        Untouched.by("all(7, true)", Worlds.TOLD, y -> y.all(7, true), -1);
        Due.sentence("Promise 12", "0: given");
        Due.is("all(0, false)", x.all(0, false), 15300 + 4590);
        Due.is("all(0, true)", x.all(0, true), 15300 + 4590);
        Due.sentence("Promise 12", "1: taken, 2: held, 3: under way");
        for (int run = 0; run < 2; run++) {
            int way = 0;
            for (int c = 0; c < 8; c++) {
                way += x.look(c, 7 + run);
            }
            int took = x.about(5, 3 + run) + x.about(6, 3 + run) + x.about(7, 3 + run);
            Due.is("taken", x.all(1, run == 1), took);
            Due.is("held", x.all(2, run == 1), x.about(3, 3 + run));
            Due.is("under way", x.all(3, run == 1), way);
        }
    }

    public static void main(String[] args) {
        kindsAndSizes();
        tenNodes();
        endsOfChannels();
        numbersOfChannels();
        fourteenChannels();
        sizes();
        sizeOfTanks();
        breaks();
        gates();
        paths();
        along();
        bestPaths();
        answersOfAbout();
        answersOfLook();
        answersOfAll();
        Due.end();
    }
}
