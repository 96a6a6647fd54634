/** Promises 1 and 31 to 33: each sentence that names a boundary of a new object, of counts and of images. */
public final class BoundsOfImages {
    private static final int LOWEST = Integer.MIN_VALUE;
    private static final int HIGHEST = Integer.MAX_VALUE;

    private static void newObject() {
        Due.sentence("Promise 1", "No NODES, CHANNELS, DEEDS, STATUTE; QUARTER 0");
        CliffWater x = new CliffWater();
        for (int what = 0; what <= 10; what++) {
            Due.is("count(" + what + ")", x.count(what), 0);
        }
        Due.is("about(0, 0)", x.about(0, 0), -2);
        Due.is("look(0, 0)", x.look(0, 0), -2);
        Due.is("written(0, 0)", x.written(0, 0), -2);
        Due.is("path(0, 1)", x.path(0, 1), -1);
        Due.is("ran(0)", x.ran(0), -2);
        Due.is("fault(0)", x.fault(0), 0);
        Due.is("fault(1)", x.fault(1), -1);
        Due.is("end(1)", x.end(1), -1);
        Due.is("owner(0, 0, 0)", x.owner(0, 0, 0), -1);
        Due.is("owner(0, 0, 1)", x.owner(0, 0, 1), -2);
        for (int what = 0; what <= 6; what++) {
            Due.is("all(" + what + ", false)", x.all(what, false), 0);
            Due.is("all(" + what + ", true)", x.all(what, true), 0);
        }
        for (int h = 0; h < 8; h++) {
            Due.is("holder(" + h + ", 0, 2)", x.holder(h, 0, 2), 0);
            Due.is("owed(" + h + ")", x.owed(h), 0);
        }
        Due.sentence("Promise 1", "no images");
        for (int k = 0; k < 3; k++) {
            Due.is("again(" + k + ")", x.again(k), false);
        }
        Due.sentence("Terms 1", "a new NODE has no OPEN CHANNEL");
        x.node(1, 0);
        Due.is("about(0, 2)", x.about(0, 2), -1);
        Due.sentence("The constants", "NONE = -1");
        Due.is("NONE", CliffWater.NONE, -1);
    }

    private static void counts() {
        Due.sentence("Promise 31", "NONE for another what");
        for (int what : new int[] {-1, 11, LOWEST, HIGHEST}) {
            Due.is("count(" + what + ")", Worlds.told().count(what), -1);
        }
        Untouched.by("count(11)", Worlds.TOLD, x -> x.count(11), -1);
        Due.sentence("Promise 31", "How many");
        int[] known = {8, 8, 5, 153, 1, 0, 39, 4, 9, 1, 3};
        for (int what = 0; what < known.length; what++) {
            Due.is("count(" + what + ")", Worlds.told().count(what), known[what]);
        }
        Due.sentence("Promise 31", "2 DEEDS (VOID ones, too)");
        CliffWater x = Worlds.told();
        x.annul(0);
        Due.is("count(2)", x.count(2), 5);
        Due.sentence("Promise 31", "each at its most");
        Due.is("NODES", Worlds.tenNodes().count(0), 10);
        Due.is("CHANNELS", Worlds.allChannels().count(1), 14);
        Due.is("DEEDS", Worlds.deeds(120).count(2), 120);
        Due.is("rows of GAUGES", Worlds.rows(150).count(8), 150);
        CliffWater late = Worlds.late(9599);
        int[] last = {9599, 99, 14, 2400};
        for (int what = 3; what <= 6; what++) {
            Due.is("count(" + what + ")", late.count(what), last[what - 3]);
        }
        CliffWater dry = new CliffWater();
        for (int w = 0; w < 100; w++) {
            dry.dry(w, true);
        }
        Due.is("DRY WEEKS", dry.count(10), 100);
        CliffWater broken = Worlds.allChannels();
        for (int c = 0; c < 14; c++) {
            broken.broken(c, true);
        }
        Due.is("BROKEN CHANNELS", broken.count(9), 14);
    }

    private static void limits() {
        Due.sentence("Promise 32", "Image k (0 .. 2): true; false for another k");
        for (int k = 0; k < 3; k++) {
            Due.is("image(" + k + ")", Worlds.told().image(k), true);
        }
        for (int k : new int[] {-1, 3, LOWEST, HIGHEST}) {
            Untouched.by("image(" + k + ")", Worlds.TOLD, x -> Due.bit(x.image(k)), 0);
        }
        Due.sentence("Promise 33", "false if there is none such");
        for (int k : new int[] {0, 2, -1, 3, LOWEST, HIGHEST}) {
            Untouched.by("again(" + k + ")", Worlds.TOLD, x -> Due.bit(x.again(k)), 0);
        }
        for (int k : new int[] {0, 1, 2}) {
            Untouched.by("again(" + k + ")", Worlds.NEW, x -> Due.bit(x.again(k)), 0);
        }
        Due.is("again(1)", Worlds.told().again(1), true);
    }

    /** All that can be told is told otherwise. */
    private static void tellMuch(CliffWater x) {
        x.size(0, 7);
        x.size(3, 77777);
        x.broken(0, true);
        x.broken(7, false);
        x.open(1, -1);
        x.open(4, 5);
        x.node(2, 9);
        x.channel(0, 8, 1, 2, 3, 4);
        x.field(0, 7);
        x.field(3, -1);
        x.annul(0);
        x.deed(0, 100, 6, 0);
        x.gauge(0, 5, 100, 100);
        x.gauge(6, 6, 100, 0);
        x.dry(0, false);
        x.dry(50, true);
        x.go(59);
        Texts.statute(x, "weight 9;");
        Texts.statute(x, "cut;");
        Texts.tape(x, "if dry:cut 1;weight 77;");
    }

    private static void images() {
        Due.sentence("Promise 32", "all that is told (the tape, the FAULT, what is under way, too), as it is now");
        for (int k = 0; k < 3; k++) {
            int i = k;
            Untouched.by("image(" + i + "), much, again(" + i + ")", () -> imaged(i), x -> {
                tellMuch(x);
                return Due.bit(x.again(i));
            }, 1);
            Untouched.by("image(" + i + "), again(" + i + ")", () -> imaged(i), x -> Due.bit(x.again(i)), 1);
        }
        Due.sentence("Promise 32", "a later image takes the place of an earlier one");
        CliffWater x = new CliffWater();
        x.image(0);
        x.node(1, 0);
        x.image(0);
        x.node(1, 0);
        Due.is("again(0)", x.again(0), true);
        Due.is("count(0)", x.count(0), 1);
        Due.sentence("Promise 33", "other images stay");
        CliffWater y = new CliffWater();
        for (int k = 0; k < 3; k++) {
            y.node(1, 0);
            y.go(k + 1);
            Due.is("image(" + k + ")", y.image(k), true);
        }
        for (int k : new int[] {1, 0, 2, 2, 0, 1}) {
            Due.is("again(" + k + ")", y.again(k), true);
            Due.is("count(0)", y.count(0), k + 1);
            Due.is("count(3)", y.count(3), (k + 1) * (k + 2) / 2);
            y.node(4, 1);
            y.go(1);
        }
    }

    /** Image 2 is a new object's, image 0 that of much. */
    private static CliffWater imagedTwice() {
        CliffWater x = new CliffWater();
        x.image(2);
        Worlds.tell(x);
        x.image(0);
        return x;
    }

    /** In each place stands another thing than told() has there. */
    private static void tellOther(CliffWater x) {
        x.node(0, 1);
        for (int v = 1; v < 8; v++) {
            x.node(v < 5 ? 2 : 3, 9 + v);
        }
        for (int c = 0; c < 8; c++) {
            x.channel(1 + c / 3, 4 + c % 3, 1 + c, 400 + c, 5, 1000 + c);
        }
        for (int h = 0; h < 8; h++) {
            x.deed(50 + h, 90 + h, h, 50);
        }
        x.deed(0, 167, 6, 0);
        x.go(96);
        x.go(96);
        x.annul(0);
        for (int q = 0; q < 12; q++) {
            x.gauge(7, 100 + q, 77, 7);
        }
        x.deed(1, 2, 3, 4);
    }

    private static void otherThings() {
        Due.sentence("Promise 33", "All that is as image k has it, also where other things came in its place");
        Untouched.by("again(2), much, again(0)", BoundsOfImages::imagedTwice, x -> {
            Due.is("again(2)", x.again(2), true);
            Due.is("NODES of a new object", x.count(0), 0);
            tellOther(x);
            return Due.bit(x.again(0));
        }, 1);
    }

    private static CliffWater imaged(int k) {
        CliffWater x = Worlds.told();
        x.image(k);
        return x;
    }

    private static void limitsThatComeBack() {
        Due.sentence("Promise 33", "All that is as image k has it: what was full has room again");
        CliffWater x = Worlds.deeds(119);
        x.image(0);
        Due.is("deed", x.deed(0, 0, 0, 0), 119);
        Due.is("deed", x.deed(0, 0, 0, 0), -1);
        x.again(0);
        Due.is("deed", x.deed(0, 0, 0, 0), 119);
        CliffWater y = Worlds.late(9598);
        y.image(0);
        Due.is("go(1)", y.go(1), 9599);
        Due.is("go(1)", y.go(1), -1);
        y.again(0);
        Due.is("go(1)", y.go(1), 9599);
        CliffWater z = Worlds.tape(480);
        z.image(0);
        Due.is("feed", z.feed(1, 2, 3, 4, 5), 500);
        z.again(0);
        Due.is("feed", z.feed(1, 2, 3, 4, 5), 500);
        CliffWater v = Worlds.told();
        v.image(0);
        Due.is("annul(0)", v.annul(0), true);
        v.again(0);
        Due.is("annul(0)", v.annul(0), true);
        Due.is("annul(0)", v.annul(0), false);
        Due.sentence("Promise 33", "what is no FIELD any more has no LAID TURNS");
        CliffWater w = new CliffWater();
        w.image(0);
        w.node(4, 1);
        Due.is("lay(8, 1, 1, 7, 0)", w.lay(8, 1, 1, 7, 0), 0);
        w.again(0);
        Due.is("lay(8, 1, 1, 7, 0)", w.lay(8, 1, 1, 7, 0), -1);
        Due.is("laid(8, 1, 1, 7, 0)", w.laid(8, 1, 1, 7, 0), -1);
        w.node(1, 0);
        Due.is("lay(8, 1, 1, 7, 0)", w.lay(8, 1, 1, 7, 0), -1);
    }

    public static void main(String[] args) {
        newObject();
        counts();
        limits();
        images();
        otherThings();
        limitsThatComeBack();
        Due.end();
    }
}
