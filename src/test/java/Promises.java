/** For each promise of the document: ordinary inputs, the edges that it names, and wrong inputs. */
public final class Promises {
    private static int wrong = 0;
    private static String part = "";

    private static void due(String call, long got, long want) {
        if (got != want) {
            wrong++;
            System.out.println(part + ": " + call + " answered " + got + ", due is " + want);
        }
    }

    private static void due(String call, boolean got, boolean want) {
        due(call, got ? 1 : 0, want ? 1 : 0);
    }

    /** Feeds a text of any length, with the bytes behind it cut off. */
    private static void tape(CliffWater x, String text) {
        int before = x.end(0);
        due("end(0)", before, 0);
        for (int i = 0; i < text.length(); i += 20) {
            int[] n = new int[5];
            for (int j = 0; j < 20; j++) {
                int b = i + j < text.length() ? text.charAt(i + j) : 0;
                n[j / 4] = n[j / 4] << 8 | b & 255;
            }
            due("feed", x.feed(n[0], n[1], n[2], n[3], n[4]), i + 20);
        }
        due("end", x.end(text.length()), text.length());
    }

    private static void law(CliffWater x, String text, int lines) {
        tape(x, text);
        due("statute() of " + text, x.statute(), lines);
        due("fault(0) of " + text, x.fault(0), 0);
        due("fault(1) of " + text, x.fault(1), -1);
    }

    private static void fault(String text, int kind, int place) {
        CliffWater x = new CliffWater();
        law(x, "free;free;", 2);
        tape(x, text);
        due("statute() of " + text, x.statute(), -1);
        due("fault(0) of " + text, x.fault(0), kind);
        due("fault(1) of " + text, x.fault(1), place);
        due("lines after " + text, x.count(7), 2);
        due("tape after " + text, x.end(1), -1);
    }

    private static String times(String s, int n) {
        return s.repeat(n);
    }

    private static void quarters(CliffWater x, int n) {
        for (int left = n; left > 0; left -= 96) {
            x.go(Math.min(96, left));
        }
    }

    /** Least and most, both. */
    private static void sums(CliffWater x, int what, int least, int most) {
        due("all(" + what + ", false)", x.all(what, false), least);
        due("all(" + what + ", true)", x.all(what, true), most);
    }

    private static void closes(CliffWater x) {
        for (int run = 0; run < 2; run++) {
            boolean most = run == 1;
            long sum = 0;
            for (int what = 1; what <= 6; what++) {
                sum += x.all(what, most);
            }
            due("all that springs gave", sum, x.all(0, most));
        }
    }

    private static void newObject() {
        CliffWater x = new CliffWater();
        for (int what = 0; what <= 10; what++) {
            due("count(" + what + ")", x.count(what), 0);
        }
        for (int what = 0; what <= 6; what++) {
            sums(x, what, 0, 0);
        }
        for (int k = 0; k < 3; k++) {
            due("again", x.again(k), false);
        }
        due("feed", x.feed(0, 0, 0, 0, 0), 20);
        due("fault(0)", x.fault(0), 0);
        due("fault(1)", x.fault(1), -1);
        due("NONE", CliffWater.NONE, -1);
    }

    private static void node() {
        CliffWater x = new CliffWater();
        int[][] refused = {{-1, 0}, {5, 1}, {0, -1}, {0, 1000}, {1, 1}, {1, -1}, {2, 0}, {2, 100000},
            {3, 0}, {3, 501}, {4, 0}, {4, 100000}, {Integer.MIN_VALUE, 0}, {Integer.MAX_VALUE, 1}};
        for (int[] r : refused) {
            due("node(" + r[0] + ", " + r[1] + ")", x.node(r[0], r[1]), -1);
        }
        int[][] taken = {{0, 0}, {0, 999}, {1, 0}, {2, 1}, {2, 99999}, {3, 1}, {3, 500}, {4, 1}, {4, 99999}, {1, 0}};
        for (int i = 0; i < taken.length; i++) {
            due("node", x.node(taken[i][0], taken[i][1]), i);
            due("kind", x.about(i, 0), taken[i][0]);
            due("size", x.about(i, 1), taken[i][1]);
        }
        due("an 11th node", x.node(1, 0), -1);
        due("count(0)", x.count(0), 10);
    }

    private static void channel() {
        CliffWater x = new CliffWater();
        x.node(0, 5);
        x.node(1, 0);
        x.node(4, 5);
        x.node(1, 0);
        int[][] refused = {{-1, 1, 0, 0, 0, 1}, {0, 4, 0, 0, 0, 1}, {1, 1, 0, 0, 0, 1}, {1, 0, 0, 0, 0, 1},
            {2, 3, 0, 0, 0, 1}, {0, 1, -1, 0, 0, 1}, {0, 1, 0, 501, 0, 1}, {0, 1, 2, 1, 0, 1}, {0, 1, 501, 501, 0, 1},
            {0, 1, 0, 0, -1, 1}, {0, 1, 0, 0, 9, 1}, {0, 1, 0, 0, 0, 0}, {0, 1, 0, 0, 0, 10000}};
        for (int[] r : refused) {
            due("channel", x.channel(r[0], r[1], r[2], r[3], r[4], r[5]), -1);
        }
        due("channel", x.channel(0, 1, 500, 500, 8, 9999), 0);
        due("channel", x.channel(0, 1, 0, 0, 0, 1), 1);
        due("channel", x.channel(1, 3, 0, 500, 0, 1), 2);
        for (int i = 3; i < 14; i++) {
            due("channel", x.channel(1, 2, 0, 1, 0, i), i);
        }
        due("a 15th channel", x.channel(0, 1, 0, 0, 0, 1), -1);
        due("count(1)", x.count(1), 14);
    }

    private static void size() {
        CliffWater x = new CliffWater();
        x.node(0, 100);
        x.node(2, 500);
        x.node(1, 0);
        x.node(3, 5);
        x.node(4, 5);
        x.channel(0, 1, 100, 200, 0, 999);
        x.open(0, 0);
        x.go(2);
        due("held", x.about(1, 4), 180);
        due("below what it holds in MOST", x.size(1, 179), false);
        due("what it holds in MOST", x.size(1, 180), true);
        due("size", x.about(1, 1), 180);
        due("size of a tank", x.size(1, 100000), false);
        due("size of a joint", x.size(2, 0), true);
        due("size of a joint", x.size(2, 1), false);
        due("size of a wheel", x.size(3, 501), false);
        due("size of a wheel", x.size(3, 500), true);
        due("size of a field", x.size(4, 0), false);
        due("size of a field", x.size(4, 99999), true);
        due("size of a spring", x.size(0, 1000), false);
        due("size of a spring", x.size(0, 50), true);
        due("no such node", x.size(5, 1), false);
        due("no such node", x.size(-1, 1), false);
        x.go(1);
        due("gave", x.about(0, 3), 250);
        due("spilt", x.all(4, true), 45);
        closes(x);
    }

    private static void broken() {
        CliffWater x = new CliffWater();
        x.node(0, 100);
        x.node(4, 9);
        x.channel(0, 1, 0, 100, 3, 70);
        x.open(0, 0);
        due("mended, but is whole", x.broken(0, false), false);
        due("no such channel", x.broken(1, true), false);
        due("no such channel", x.broken(-1, true), false);
        x.go(2);
        due("under way", x.look(0, 7), 126);
        due("breaks", x.broken(0, true), true);
        due("is so", x.broken(0, true), false);
        due("count(9)", x.count(9), 1);
        due("open one stays", x.about(0, 2), 0);
        sums(x, 6, 126, 140);
        x.go(1);
        sums(x, 6, 196, 210);
        sums(x, 5, 14, 0);
        due("mended", x.broken(0, false), true);
        due("count(9)", x.count(9), 0);
        x.go(3);
        sums(x, 1, 0, 0);
        x.go(1);
        sums(x, 1, 63, 70);
        closes(x);
    }

    private static void open() {
        CliffWater x = new CliffWater();
        x.node(0, 10);
        x.node(1, 0);
        x.node(4, 9);
        x.channel(0, 1, 0, 0, 0, 9);
        x.channel(0, 2, 0, 0, 0, 8);
        x.channel(1, 2, 0, 0, 0, 7);
        due("of another node", x.open(0, 2), false);
        due("no such channel", x.open(0, 3), false);
        due("no such channel", x.open(0, -2), false);
        due("no such node", x.open(3, -1), false);
        due("no such node", x.open(-1, 0), false);
        due("open", x.open(0, 1), true);
        due("open again", x.open(0, 1), true);
        due("about", x.about(0, 2), 1);
        x.go(1);
        sums(x, 1, 8, 8);
        due("another one", x.open(0, 0), true);
        due("none", x.open(1, -1), true);
        x.go(1);
        sums(x, 4, 2 + 1 + 9, 2 + 1 + 9);
        due("none", x.open(0, -1), true);
        due("none of a field", x.open(2, -1), true);
        due("about", x.about(0, 2), -1);
        x.go(1);
        sums(x, 4, 22, 22);
        closes(x);
    }

    private static CliffWater ways() {
        CliffWater x = new CliffWater();
        for (int i = 0; i < 6; i++) {
            x.node(1, 0);
        }
        x.node(4, 1);
        x.channel(0, 1, 0, 0, 1, 9); // 0
        x.channel(1, 3, 0, 0, 1, 9); // 1
        x.channel(0, 2, 0, 0, 2, 9); // 2
        x.channel(2, 3, 0, 0, 0, 9); // 3
        x.channel(0, 3, 0, 0, 3, 9); // 4
        x.channel(3, 6, 0, 0, 2, 9); // 5
        x.channel(3, 6, 0, 0, 2, 9); // 6
        x.channel(3, 4, 0, 0, 1, 9); // 7
        x.channel(4, 6, 0, 0, 1, 9); // 8
        return x;
    }

    private static void path() {
        CliffWater x = ways();
        due("path", x.path(0, 3), 2);
        due("path", x.path(0, 6), 4);
        due("one node", x.path(3, 3), -1);
        due("back", x.path(3, 0), -1);
        due("none", x.path(0, 5), -1);
        due("no such node", x.path(0, 7), -1);
        due("no such node", x.path(-1, 3), -1);
        x.broken(0, true);
        due("round a break", x.path(0, 3), 2);
        x.broken(3, true);
        due("round two", x.path(0, 3), 3);
        x.broken(4, true);
        due("none is whole", x.path(0, 3), -1);
    }

    private static void along() {
        CliffWater x = ways();
        int[] row = {0, 1, 5, -1};
        for (int i = 0; i < 4; i++) {
            due("the least row of the fewest", x.along(0, 6, i), row[i]);
        }
        due("along", x.along(0, 6, -1), -1);
        due("along", x.along(0, 6, Integer.MAX_VALUE), -1);
        due("along", x.along(6, 0, 0), -1);
        due("along", x.along(3, 3, 0), -1);
        due("along", x.along(0, 10, 0), -1);
        x.channel(0, 3, 0, 0, 2, 9);
        due("fewer channels", x.along(0, 6, 0), 9);
        due("fewer channels", x.along(0, 6, 1), 5);
        due("fewer channels", x.along(0, 6, 2), -1);
        x.broken(9, true);
        x.broken(1, true);
        x.broken(5, true);
        due("round breaks", x.along(0, 6, 0), 2);
        due("round breaks", x.along(0, 6, 1), 3);
        due("round breaks", x.along(0, 6, 2), 6);
        x.broken(6, true);
        due("the longer one", x.along(0, 6, 3), 8);
    }

    private static void go() {
        CliffWater x = new CliffWater();
        due("go", x.go(0), -1);
        due("go", x.go(-1), -1);
        due("go", x.go(97), -1);
        due("go", x.go(Integer.MAX_VALUE), -1);
        for (int i = 1; i < 100; i++) {
            due("go", x.go(96), 96 * i);
        }
        due("above 9599", x.go(96), -1);
        due("to 9599", x.go(95), 9599);
        due("above 9599", x.go(1), -1);
        due("count(3)", x.count(3), 9599);
        due("count(4)", x.count(4), 99);
        due("count(5)", x.count(5), 14);
        due("count(6)", x.count(6), 2400);
        due("ran", x.ran(2399), -1);
        due("ran", x.ran(2400), -2);
        goTravels();
        goWheelsAndTanks();
        goTurnsGates();
    }

    private static void goTravels() {
        CliffWater x = new CliffWater();
        x.node(0, 999);
        x.node(0, 1);
        x.node(4, 1);
        x.channel(0, 1, 15, 500, 8, 9999);
        x.channel(1, 2, 0, 0, 0, 500);
        x.open(0, 0);
        x.open(1, 1);
        x.go(8);
        sums(x, 1, 8, 8);
        sums(x, 5, 8 * 499, 8 * 14);
        due("under way", x.look(0, 7), 8 * 500);
        due("under way", x.look(0, 8), 8 * 985);
        x.go(1);
        sums(x, 1, 508, 508);
        sums(x, 4, 1, 486);
        sums(x, 3, 8 * 500, 8 * 985);
        closes(x);
    }

    private static void goWheelsAndTanks() {
        CliffWater x = new CliffWater();
        x.node(0, 150);
        x.node(2, 100);
        x.node(3, 33);
        x.node(1, 0);
        x.channel(0, 1, 0, 0, 0, 9999);
        x.channel(1, 2, 0, 0, 0, 60);
        x.channel(2, 3, 0, 0, 0, 50);
        x.open(0, 0);
        x.open(1, 1);
        x.open(2, 2);
        x.go(1);
        due("a tank spills before it gives", x.about(1, 3), 40);
        due("power", x.about(2, 3), 16);
        due("what a wheel and a joint spill", x.all(4, false), 50 + 10 + 50);
        x.go(1);
        due("power", x.about(2, 4), 32);
        x.broken(2, true);
        x.go(1);
        due("power of what is lost", x.about(2, 4), 48);
        due("lost", x.all(6, true), 50);
        x.open(2, -1);
        x.go(1);
        due("no power", x.about(2, 4), 48);
        closes(x);
    }

    private static void goTurnsGates() {
        CliffWater x = new CliffWater();
        x.node(0, 10);
        x.node(1, 0);
        x.node(4, 1);
        x.node(4, 1);
        x.channel(0, 1, 0, 0, 0, 99);
        x.channel(1, 2, 0, 0, 0, 99);
        x.channel(1, 3, 0, 0, 0, 99);
        x.channel(0, 3, 0, 0, 1, 99);
        x.field(0, 2);
        x.field(1, 3);
        x.deed(0, 0, 0, 0);
        x.deed(1, 1, 1, 0);
        x.deed(2, 2, 2, 0);
        x.go(1);
        due("gate of the hour", x.about(0, 2), 0);
        due("gate of the hour", x.about(1, 2), 1);
        due("ahead of the quarter", x.about(2, 3), 10);
        x.open(1, 2);
        x.go(3);
        due("not in the midst of an hour", x.about(1, 2), 2);
        x.broken(2, true);
        x.open(1, 1);
        x.go(1);
        due("a way round", x.about(0, 2), 3);
        due("off the path nothing is turned", x.about(1, 2), 1);
        due("ran", x.ran(1), 1);
        x.go(4);
        due("an owner without a field turns nothing", x.about(0, 2), 3);
        due("ran", x.ran(2), 2);
        x.broken(3, true);
        x.deed(3, 3, 1, 0);
        x.go(4);
        due("no path: nothing is turned", x.about(0, 2), 3);
        due("ran", x.ran(3), 1);
        x.field(3, 2);
        x.deed(5, 5, 3, 0);
        x.annul(4);
        x.go(8);
        due("of a void deed nothing is turned", x.about(0, 2), 3);
        due("ran", x.ran(5), -1);
        closes(x);
    }

    private static void about() {
        CliffWater x = new CliffWater();
        x.node(0, 10);
        x.node(1, 0);
        x.channel(0, 1, 0, 0, 0, 9);
        x.open(0, 0);
        x.go(3);
        int[] spring = {0, 10, 0, 30, 30, -2};
        int[] joint = {1, 0, -1, 0, 0, -2};
        for (int what = 0; what < 6; what++) {
            due("spring", x.about(0, what), spring[what]);
            due("joint", x.about(1, what), joint[what]);
            due("no such node", x.about(2, what), -2);
            due("no such node", x.about(-1, what), -2);
        }
        due("another what", x.about(0, -1), -2);
    }

    private static void look() {
        CliffWater x = new CliffWater();
        x.node(0, 100);
        x.node(1, 0);
        x.node(1, 0);
        x.channel(0, 2, 20, 300, 4, 90);
        x.open(0, 0);
        x.go(2);
        int[] due = {0, 2, 20, 300, 4, 90, 0, 126, 178, -2};
        for (int what = 0; what < 10; what++) {
            due("look(0, " + what + ")", x.look(0, what), due[what]);
            due("no such channel", x.look(1, what), -2);
            due("no such channel", x.look(-1, what), -2);
        }
        due("another what", x.look(0, -1), -2);
        x.broken(0, true);
        due("broken", x.look(0, 6), 1);
        due("lost", x.look(0, 8), 0);
    }

    private static void all() {
        CliffWater x = new CliffWater();
        x.node(0, 100);
        x.node(0, 7);
        x.node(2, 40);
        x.node(4, 5);
        x.channel(0, 2, 100, 250, 0, 80);
        x.channel(2, 3, 0, 0, 1, 30);
        x.open(0, 0);
        x.open(2, 1);
        x.go(2);
        sums(x, 0, 214, 214);
        sums(x, 1, 30, 30);
        sums(x, 2, 10, 10);
        sums(x, 3, 30, 30);
        // the springs spill 27 a quarter; the tank 20, then 30 (LEAST: 60 come), 32, then 42 (MOST: 72)
        sums(x, 4, 54 + 20 + 30, 54 + 32 + 42);
        sums(x, 5, 40, 16);
        sums(x, 6, 0, 0);
        due("another what", x.all(7, true), -1);
        due("another what", x.all(-1, false), -1);
        closes(x);
    }

    private static void field() {
        CliffWater x = new CliffWater();
        x.node(0, 1);
        x.node(4, 1);
        x.node(3, 1);
        x.channel(0, 1, 0, 0, 6, 1);
        due("field", x.field(0, 1), true);
        due("field", x.field(7, 1), true);
        due("no such holder", x.field(8, 1), false);
        due("no such holder", x.field(-1, 1), false);
        due("no such holder", x.field(-1, -1), false);
        due("no field", x.field(1, 0), false);
        due("no field", x.field(0, 2), false);
        due("no such node", x.field(0, 3), false);
        due("no such node", x.field(0, -2), false);
        due("it stays", x.holder(0, 0, 5), 6);
        due("none", x.field(0, -1), true);
        due("far", x.holder(0, 0, 5), 999);
        due("far", x.holder(7, 0, 5), 6);
    }

    private static void deed() {
        CliffWater x = new CliffWater();
        int[][] refused = {{-1, 0, 0, 0}, {0, 168, 0, 0}, {2, 1, 0, 0}, {168, 168, 0, 0}, {0, 0, 8, 0}, {0, 0, -1, 0},
            {0, 0, 0, 100}, {0, 0, 0, -1}};
        for (int[] r : refused) {
            due("deed", x.deed(r[0], r[1], r[2], r[3]), -1);
        }
        due("deed", x.deed(0, 167, 7, 99), 0);
        due("deed", x.deed(167, 167, 0, 0), 1);
        for (int i = 2; i < 120; i++) {
            due("deed", x.deed(0, 0, i % 8, 0), i);
        }
        due("a 121st deed", x.deed(0, 0, 0, 0), -1);
        due("count(2)", x.count(2), 120);
        due("the last one written", x.owner(0, 0, 0), 119 % 8);
    }

    private static void annul() {
        CliffWater x = new CliffWater();
        due("none such", x.annul(0), false);
        due("none such", x.annul(-1), false);
        x.deed(3, 4, 5, 0);
        x.deed(3, 4, 6, 0);
        quarters(x, 200);
        due("annul", x.annul(1), true);
        due("it is", x.annul(1), false);
        due("none such", x.annul(2), false);
        due("void from this day on", x.owner(3, 0, 2), 5);
        due("not the day ahead", x.owner(3, 0, 1), 6);
        due("count(2)", x.count(2), 2);
    }

    private static void written() {
        CliffWater x = new CliffWater();
        quarters(x, 96);
        x.deed(3, 9, 5, 42);
        quarters(x, 192);
        int[] due = {3, 9, 5, 42, 1, -1, -2};
        for (int what = 0; what < 7; what++) {
            due("written(0, " + what + ")", x.written(0, what), due[what]);
            due("none such", x.written(1, what), -2);
            due("none such", x.written(-1, what), -2);
        }
        due("another what", x.written(0, -1), -2);
        x.annul(0);
        due("void", x.written(0, 5), 3);
        due("day", x.written(0, 4), 1);
    }

    private static void owner() {
        CliffWater x = new CliffWater();
        due("none", x.owner(0, 0, 0), -1);
        x.deed(10, 20, 1, 5);
        x.deed(0, 167, 2, 3);
        x.deed(12, 12, 3, 5);
        due("before any week", x.owner(12, 2, 0), -1);
        due("from that week", x.owner(12, 3, 0), 2);
        due("from an earlier week", x.owner(12, 4, 0), 2);
        due("the latest week", x.owner(10, 5, 0), 1);
        due("the latest week", x.owner(20, 99, 0), 1);
        due("of several the one written last", x.owner(12, 5, 0), 3);
        due("beside it", x.owner(9, 5, 0), 2);
        due("beside it", x.owner(21, 5, 0), 2);
        quarters(x, 96);
        x.deed(12, 12, 4, 5);
        x.annul(0);
        due("as known ahead", x.owner(12, 5, 0), 3);
        due("as known now", x.owner(12, 5, 1), 4);
        due("as known ahead", x.owner(10, 5, 0), 1);
        due("as known now", x.owner(10, 5, 1), 2);
        int[][] refused = {{-1, 0, 0}, {168, 0, 0}, {0, -1, 0}, {0, 100, 0}, {0, 0, -1}, {0, 0, 2}};
        for (int[] r : refused) {
            due("owner", x.owner(r[0], r[1], r[2]), -2);
        }
        due("edges", x.owner(167, 99, 1), 2);
    }

    private static void ran() {
        CliffWater x = new CliffWater();
        x.deed(0, 1, 6, 0);
        due("not begun", x.ran(0), -2);
        x.go(1);
        due("begun", x.ran(0), 6);
        due("none such", x.ran(-1), -2);
        due("not begun", x.ran(1), -2);
        x.go(3);
        due("not begun", x.ran(1), -2);
        x.go(1);
        x.annul(0);
        due("it stays", x.ran(1), 6);
        x.go(4);
        due("none", x.ran(2), -1);
        due("count(6)", x.count(6), 3);
    }

    private static void owed() {
        CliffWater x = new CliffWater();
        due("none such", x.owed(8), -100000);
        due("none such", x.owed(-1), -100000);
        x.deed(0, 9, 0, 0);
        x.deed(0, 1, 1, 1);
        quarters(x, 672 + 12);
        due("nothing", x.owed(0), 0);
        x.deed(0, 3, 2, 0);
        // hours 0 .. 3 of week 0 and hour 2 of week 1, which had begun, too
        due("ran for another", x.owed(2), 5);
        due("ran for it, but is not its own", x.owed(0), -5);
        due("the later week goes ahead", x.owed(1), 0);
        x.annul(1);
        due("of two weeks", x.owed(2), 5 + 2);
        due("of two weeks", x.owed(1), -2);
        x.deed(10, 11, 3, 0);
        due("ran for none", x.owed(3), 2);
        x.annul(0);
        due("none is its own", x.owed(0), -10 - 1);
        x.deed(100, 100, 7, 20);
        due("hours that have not begun", x.owed(7), 0);
    }

    private static void feed() {
        CliffWater x = new CliffWater();
        for (int i = 1; i <= 24; i++) {
            due("feed", x.feed(-1, 1, 2, 3, 4), 20 * i);
        }
        due("end", x.end(481), -1);
        due("feed", x.feed(0, 0, 0, 0, 0), 500);
        due("more than 500", x.feed(0, 0, 0, 0, 0), -1);
        due("nothing came", x.end(500), 500);
        x.end(481);
        due("more than 500", x.feed(0, 0, 0, 0, 0), -1);
        due("nothing came", x.end(482), -1);
        x.end(0);
        due("the highest first", x.feed(0x63757420, 0x31323b66, 0x7265653b, 0x20202020, 0x0a0a2020), 20);
        due("statute", x.statute(), 2);
        due("cut", x.holder(0, 0, 3), 12);
        due("empty", x.feed(0, 0, 0, 0, 0), 20);
        x.end(0);
        x.feed(0x66726565, 0x3bff0000, 0, 0, 0);
        due("a byte above 127", x.statute(), -1);
        due("its place", x.fault(1), 5);
    }

    private static void end() {
        CliffWater x = new CliffWater();
        due("end", x.end(0), 0);
        due("not so many", x.end(1), -1);
        due("below 0", x.end(-1), -1);
        x.feed(1, 2, 3, 4, 5);
        due("all", x.end(20), 20);
        due("not so many", x.end(21), -1);
        due("end", x.end(7), 7);
        due("not so many", x.end(8), -1);
        due("feed behind it", x.feed(1, 2, 3, 4, 5), 27);
    }

    private static void statute() {
        CliffWater x = new CliffWater();
        law(x, "", 0);
        law(x, " \n ", 0);
        law(x, "weight0;", 1);
        law(x, "weight 9999 ; cut 0100;free;\n", 3);
        law(x, "if not dry and not hours<5 and night=0005 and far>9999:cut 100;if holder=0 and owed>0:free;", 2);
        law(x, times("free;", 16), 16);
        law(x, times("if dry:free;", 16), 16);
        due("count(7)", x.count(7), 16);
        law(x, "", 0);
        due("count(7)", x.count(7), 0);
        law(x, times(" ", 495) + "free;", 1);
        statuteFaults();
    }

    private static void statuteFaults() {
        fault("weight", 1, 6);
        fault("free;" + times(" ", 490) + "\nfree", 1, 500);
        fault("weight  ", 1, 8);
        fault("free", 1, 4);
        fault("free;;", 1, 5);
        fault("free;if", 1, 7);
        fault("if :free;", 1, 3);
        fault("if dry free;", 1, 7);
        fault("if dry and:free;", 1, 10);
        fault("if and dry:free;", 1, 3);
        fault("if not:free;", 1, 6);
        fault("if dry:if dry:free;", 1, 7);
        fault("if hours>:free;", 1, 9);
        fault("if hours>12345:free;", 1, 9);
        fault("if hours 5:free;", 1, 9);
        fault("if hours<=5:free;", 1, 9);
        fault("weight hours;", 1, 7);
        fault("weights 5;", 1, 0);
        fault("weightfive;", 1, 0);
        fault("weighta 5;", 1, 0);
        fault("weightz 5;", 1, 0);
        fault("weight 5{;", 1, 8);
        fault("weight 5/;", 1, 8);
        fault("weight`5;", 1, 6);
        fault("Free;", 1, 0);
        fault("free\t;", 1, 4);
        fault("free;5", 1, 5);
        fault("free 5;", 1, 5);
        fault("cut;", 1, 3);
        fault("cut 00005;", 1, 4);
        fault("dry;", 1, 0);
        fault("not;", 1, 0);
        fault("ifdry:free;", 1, 0);
        fault("if dry:hours 5;", 1, 7);
        fault("cut 101;", 2, 4);
        fault("cut 9999;cut 101;", 2, 4);
        fault("cut 101;free", 1, 12);
        fault("cut 101;" + times("free;", 16), 2, 4);
        fault(times("free;", 16) + "cut 101;", 3, 80);
        fault(times("free;", 16) + " free;free;", 3, 81);
        fault(times("free;", 16) + "x", 1, 80);
        fault(times("free;", 16) + "if dry:cut 5; ;", 1, 94);
        fault("if dry and dry and dry and dry and not dry:cut 101;", 3, 35);
        fault("if dry and dry and dry and dry and not hours<1 and dry:cut 101;", 3, 35);
        fault("if dry and dry and dry and dry and :cut 101;", 1, 35);
        fault("cut 101;if dry and dry and dry and dry and dry:free;", 2, 4);
    }

    private static void fault() {
        CliffWater x = new CliffWater();
        due("fault(0)", x.fault(0), 0);
        due("fault(1)", x.fault(1), -1);
        due("another what", x.fault(2), -1);
        due("another what", x.fault(-1), -1);
        tape(x, "cut 100;cut 200;");
        due("not yet taken", x.fault(0), 0);
        x.statute();
        due("fault(0)", x.fault(0), 2);
        due("fault(1)", x.fault(1), 12);
        x.statute();
        due("fault(0)", x.fault(0), 0);
        due("fault(1)", x.fault(1), -1);
    }

    private static void dry() {
        CliffWater x = new CliffWater();
        law(x, "if not dry:weight 1;if dry:cut 5;", 2);
        due("it is so", x.dry(3, false), false);
        due("dry", x.dry(3, true), true);
        due("it is so", x.dry(3, true), false);
        due("edges", x.dry(0, true), true);
        due("edges", x.dry(99, true), true);
        due("none such", x.dry(100, true), false);
        due("none such", x.dry(-1, true), false);
        due("none such", x.dry(100, false), false);
        due("count(10)", x.count(10), 3);
        due("dry", x.holder(0, 3, 3), 5);
        due("dry", x.holder(0, 3, 2), 0);
        due("not dry", x.holder(0, 2, 3), 0);
        due("not dry", x.holder(0, 2, 2), 1);
        due("no more", x.dry(3, false), true);
        due("not dry", x.holder(0, 3, 2), 1);
        due("count(10)", x.count(10), 2);
    }

    private static void holder() {
        CliffWater x = new CliffWater();
        x.node(0, 1);
        x.node(4, 1);
        x.channel(0, 1, 0, 0, 7, 1);
        x.field(2, 1);
        x.deed(5, 18, 2, 1);
        x.deed(29, 30, 2, 2);
        int[] week0 = {0, 0, 0, 0, 0, 7, -1};
        int[] week1 = {14, 2, 0, 0, 14, 7, -1};
        int[] week2 = {16, 3, 0, 0, 16, 7, -1};
        for (int what = 0; what < 7; what++) {
            due("week 0", x.holder(2, 0, what), week0[what]);
            due("week 1", x.holder(2, 1, what), week1[what]);
            due("week 2", x.holder(2, 2, what), week2[what]);
            due("none such", x.holder(8, 0, what), -1);
            due("none such", x.holder(-1, 0, what), -1);
            due("none such", x.holder(0, 100, what), -1);
            due("none such", x.holder(0, -1, what), -1);
        }
        due("another what", x.holder(0, 0, -1), -1);
        holderByLaw(x);
        holderTests();
    }

    private static void holderByLaw(CliffWater x) {
        law(x, "weight 5;weight 7;cut 90;if hours>14:cut 33;", 4);
        due("weights are added", x.holder(2, 1, 2), 12);
        due("cut", x.holder(2, 1, 3), 90);
        due("14 less 12", x.holder(2, 1, 4), 2);
        due("the latest cut", x.holder(2, 2, 3), 33);
        due("16 less 5", x.holder(2, 2, 4), 11);
        law(x, "weight 5;cut 10;if far=7:free;weight 8;cut 20;", 5);
        due("free", x.holder(2, 0, 2), 0);
        due("no further line", x.holder(2, 0, 3), 10);
        due("not free", x.holder(1, 0, 2), 13);
        due("not free", x.holder(1, 0, 3), 20);
        law(x, "if hours>10 and night<3:weight 1;if hours>10 and not night<3:weight 2;", 2);
        due("all tests hold", x.holder(2, 1, 2), 1);
        due("all tests hold", x.holder(2, 2, 2), 2);
        due("all tests hold", x.holder(2, 0, 2), 0);
    }

    private static void holderTests() {
        CliffWater x = new CliffWater();
        x.deed(0, 1, 0, 0);
        x.go(8);
        x.annul(0);
        x.deed(0, 1, 1, 0);
        due("owed", x.owed(0), -2);
        law(x, "if owed=0:weight 1;if owed>1:weight 10;if owed<2:weight 100;if not holder=1:weight 1000;", 4);
        due("0 if below", x.holder(0, 0, 2), 1101);
        due("owed", x.holder(1, 0, 2), 10);
        due("owed", x.holder(2, 0, 2), 1101);
        law(x, "if far>998:weight 1;if far=999:weight 2;if not far<999:weight 4;", 3);
        due("without a path", x.holder(0, 0, 2), 7);
        law(x, times("weight 9999;", 16), 16);
        due("the heaviest", x.holder(7, 99, 2), 159984);
        due("duty", x.duty(9999, 0, 0), 1250);
        due("duty", x.duty(9999, 0, 6), 1250);
        due("duty", x.duty(9999, 0, 7), 1249);
    }

    private static void duty() {
        CliffWater x = new CliffWater();
        due("all weights are 0", x.duty(9999, 0, 0), 0);
        law(x, "if holder=1:weight 3;if holder=4:weight 3;if holder=6:weight 1;", 3);
        // of 10: 30/7 = 4 (2 left), 4 (2), 10/7 = 1 (3 left): one yard left, to holder 6
        due("duty", x.duty(10, 0, 1), 4);
        due("duty", x.duty(10, 0, 4), 4);
        due("the greatest rest", x.duty(10, 0, 6), 2);
        due("no weight", x.duty(10, 0, 0), 0);
        // of 5: 15/7 = 2 (1), 2 (1), 0 (5): one yard left, to 6; of 2: 0 (6), 0 (6), 0 (2): 1 and 4
        due("duty", x.duty(5, 0, 6), 1);
        due("duty", x.duty(2, 0, 1), 1);
        due("duty", x.duty(2, 0, 4), 1);
        due("duty", x.duty(2, 0, 6), 0);
        due("of several the least holder", x.duty(1, 0, 1), 1);
        due("of several the least holder", x.duty(1, 0, 4), 0);
        due("none", x.duty(0, 0, 1), 0);
        int[][] refused = {{-1, 0, 0}, {10000, 0, 0}, {1, -1, 0}, {1, 100, 0}, {1, 0, -1}, {1, 0, 8}};
        for (int[] r : refused) {
            due("duty", x.duty(r[0], r[1], r[2]), -1);
        }
        for (int y = 0; y <= 9999; y += 1111) {
            int sum = 0;
            for (int h = 0; h < 8; h++) {
                sum += x.duty(y, 99, h);
            }
            due("all yards", sum, y);
        }
    }

    private static CliffWater fields() {
        CliffWater x = new CliffWater();
        x.node(0, 1);
        for (int i = 1; i < 7; i++) {
            x.node(4, 1);
        }
        return x;
    }

    private static void lay() {
        CliffWater x = fields();
        int[][] refused = {{0, 2, 1, 7}, {9, 2, 1, 7}, {8, 0, 1, 7}, {8, 1, 1, 7}, {8, 128, 1, 7}, {8, 62, 1, 7},
            {8, -2, 1, 7}, {8, 2, 0, 7}, {8, 2, 5, 7}, {8, 2, 1, -1}, {8, 2, 1, 8}, {8, 1 << 10 | 2, 1, 7}};
        for (int[] r : refused) {
            due("lay", x.lay(r[0], r[1], r[2], r[3], 0), -1);
            due("laid", x.laid(r[0], r[1], r[2], r[3], 0), -1);
        }
        due("another what", x.lay(8, 2, 1, 7, 2), -1);
        due("another what", x.lay(8, 2, 1, 7, -1), -1);
        // one field alone: all slots its own is the row without a change
        due("changes", x.lay(8, 2, 1, 7, 0), 0);
        due("wheels", x.lay(8, 2, 1, 7, 1), 0);
        due("too few slots", x.lay(3, 2, 4, 7, 0), -1);
        due("enough", x.lay(4, 2, 4, 7, 0), 0);
        due("too few slots for two", x.lay(7, 6, 4, 7, 0), -1);
        // AAAABBBB: two nights each
        due("changes", x.lay(8, 6, 4, 7, 0), 1);
        due("the gap of 4 is kept", x.lay(8, 6, 4, 4, 0), 1);
        // with two changes the first field's gap would hold all four slots of the second
        due("a gap of 3 asks for more", x.lay(8, 6, 4, 3, 0), 3);
        // each second slot another's: all nights would be one field's
        due("nights even", x.lay(8, 6, 1, 1, 0), -1);
        due("nights even", x.lay(2, 6, 1, 1, 0), 1);
        due("no gap at all", x.lay(8, 6, 1, 0, 0), -1);
        // three fields and one change at least for each further one
        due("changes", x.lay(8, 14, 1, 7, 0), 2);
        due("four fields", x.lay(4, 30, 1, 3, 0), 3);
        due("four fields", x.lay(4, 30, 1, 2, 0), -1);
        // what was asked ahead of it is nothing to a call: each time one number alone is another
        due("other fields", x.lay(8, 6, 1, 4, 0), 1);
        due("other fields", x.lay(8, 14, 1, 4, 0), 3);
        due("another gap", x.lay(8, 14, 1, 7, 0), 2);
        due("another need", x.lay(8, 14, 3, 7, 0), -1);
        due("another need", x.lay(8, 14, 2, 7, 0), 2);
        due("fewer slots", x.lay(5, 14, 2, 7, 0), -1);
        due("a field alone", x.lay(5, 2, 2, 7, 0), 0);
    }

    private static void laid() {
        CliffWater x = fields();
        int[] two = {1, 1, 1, 1, 2, 2, 2, 2};
        for (int i = 0; i < 8; i++) {
            due("laid slot " + i, x.laid(8, 6, 4, 7, i), two[i]);
        }
        due("none such", x.laid(8, 6, 4, 7, 8), -1);
        due("none such", x.laid(8, 6, 4, 7, -1), -1);
        due("no such way", x.laid(8, 6, 4, 0, 0), -1);
        // five slots, gap 2: 1 1 2 2 2 leaves the first dry for 3, so the wheels or a third turn come in
        due("changes", x.lay(5, 6, 1, 2, 0), 2);
        int[] five = {1, 1, 2, 2, 1};
        for (int i = 0; i < 5; i++) {
            due("laid of five, slot " + i, x.laid(5, 6, 1, 2, i), five[i]);
        }
        laidForWheels(x);
    }

    /** Three changes would give 1 1 1 2 3 4 4 4, where the third has no night and the fourth two. */
    private static void laidForWheels(CliffWater x) {
        int[] row = {1, 1, 1, 2, 3, 4, 99, 99};
        due("changes", x.lay(8, 30, 1, 5, 0), 4);
        due("slots for wheels", x.lay(8, 30, 1, 5, 1), 2);
        for (int i = 0; i < 8; i++) {
            due("laid slot " + i, x.laid(8, 30, 1, 5, i), row[i]);
        }
    }

    private static void gauge() {
        CliffWater x = new CliffWater();
        x.node(0, 1);
        x.node(1, 0);
        due("no such channel", x.gauge(0, 0, 0, 0), -1);
        x.channel(0, 1, 0, 0, 0, 9);
        x.go(1);
        int[][] refused = {{1, 0, 0, 0}, {-1, 0, 0, 0}, {0, -1, 0, 0}, {0, 2, 0, 0}, {0, 0, -1, 0}, {0, 0, 10000, 0},
            {0, 0, 0, -1}, {0, 0, 0, 10000}};
        for (int[] r : refused) {
            due("gauge", x.gauge(r[0], r[1], r[2], r[3]), -1);
        }
        due("of now", x.gauge(0, 1, 9999, 9999), 1);
        for (int i = 2; i <= 150; i++) {
            due("gauge", x.gauge(0, 0, 0, 0), i);
        }
        due("a 151st row", x.gauge(0, 0, 0, 0), -1);
        due("count(8)", x.count(8), 150);
    }

    private static void stolen() {
        CliffWater x = new CliffWater();
        x.node(0, 1);
        x.node(1, 0);
        x.channel(0, 1, 15, 25, 0, 9);
        x.channel(0, 1, 0, 500, 0, 9);
        quarters(x, 50);
        figures(x, 0, 0, 0, 0, 0, 0, -1, 0);
        // 999 in: 24 leak at the most, 14 at the least: from 975 to 985
        x.gauge(0, 10, 999, 974);
        x.gauge(0, 5, 999, 985);
        x.gauge(0, 6, 999, 986);
        x.gauge(0, 30, 999, 900);
        x.gauge(1, 11, 100, 49);
        x.gauge(0, 31, 999, 975);
        figures(x, 0, 0, 5, 2, 2, 1, 10, 76);
        figures(x, 0, 1, 5, 4, 1, 1, 30, 74);
        figures(x, 1, 0, 1, 0, 1, 1, 11, 1);
        figures(x, 1, 1, 1, 1, 0, 0, -1, 0);
        x.gauge(0, 29, 999, 0);
        x.gauge(0, 11, 999, 0);
        figures(x, 0, 0, 7, 2, 4, 2, 10, 76 + 975 + 975);
        x.gauge(0, 9, 10, 0);
        figures(x, 0, 9, 8, 4, 4, 2, 29, 966 + 966 + 66 + 1);
        figures(x, 0, 10, 8, 5, 3, 2, 29, 965 + 965 + 65);
        x.gauge(0, 10, 999, 980);
        figures(x, 0, 0, 8, 3, 4, 2, 29, 975 + 975 + 75 + 10);
        figures(x, 0, 999, 8, 8, 0, 0, -1, 0);
        for (int what = 0; what < 6; what++) {
            due("t", x.stolen(0, -1, what), -1);
            due("t", x.stolen(0, 1000, what), -1);
            due("no such channel", x.stolen(2, 0, what), -1);
            due("no such channel", x.stolen(-1, 0, what), -1);
        }
        due("another what", x.stolen(0, 0, 6), -1);
        due("another what", x.stolen(0, 0, -1), -1);
    }

    private static void figures(CliffWater x, int channel, int t, int... want) {
        for (int what = 0; what < 6; what++) {
            due("stolen(" + channel + ", " + t + ", " + what + ")", x.stolen(channel, t, what), want[what]);
        }
    }

    private static void count() {
        CliffWater x = new CliffWater();
        x.node(0, 1);
        x.node(1, 0);
        x.node(1, 0);
        x.channel(0, 1, 0, 0, 0, 1);
        x.channel(1, 2, 0, 0, 0, 1);
        x.broken(1, true);
        for (int i = 0; i < 4; i++) {
            x.deed(0, 0, 0, 0);
        }
        x.annul(0);
        law(x, "free;free;free;free;free;", 5);
        quarters(x, 672 * 2 - 1);
        x.gauge(0, 0, 0, 0);
        x.gauge(0, 0, 0, 0);
        x.dry(7, true);
        x.dry(8, true);
        int[] due = {3, 2, 4, 1343, 13, 1, 336, 5, 2, 1, 2, -1};
        for (int what = 0; what < due.length; what++) {
            due("count(" + what + ")", x.count(what), due[what]);
        }
        due("another what", x.count(-1), -1);
        x.go(1);
        due("hours that have begun", x.count(6), 336);
        due("week", x.count(5), 2);
        x.go(1);
        due("hours that have begun", x.count(6), 337);
    }

    private static CliffWater told() {
        CliffWater x = new CliffWater();
        x.node(0, 100);
        x.node(2, 500);
        x.node(4, 9);
        x.channel(0, 1, 10, 20, 3, 90);
        x.channel(1, 2, 0, 0, 0, 30);
        x.open(0, 0);
        x.field(0, 2);
        x.deed(0, 3, 0, 0);
        x.go(6);
        x.gauge(0, 2, 10, 0);
        x.dry(4, true);
        law(x, "weight 4;cut 50;", 2);
        tape(x, "cut 200;");
        x.statute();
        x.feed(0x66726565, 0x3b202020, 0x20202020, 0x20202020, 0x20202020);
        return x;
    }

    private static void change(CliffWater x) {
        x.node(1, 0);
        x.size(0, 7);
        x.broken(0, true);
        x.open(0, -1);
        x.channel(0, 1, 0, 0, 0, 5);
        x.field(0, -1);
        x.annul(0);
        x.deed(0, 167, 5, 0);
        x.go(50);
        x.gauge(0, 2, 10, 10);
        x.dry(4, false);
        x.dry(5, true);
        x.statute();
    }

    /** Much of what can be asked, as one row of figures. */
    private static String allThatIsTold(CliffWater x) {
        StringBuilder s = new StringBuilder();
        for (int what = 0; what <= 10; what++) {
            s.append(x.count(what)).append(' ');
        }
        for (int what = 0; what <= 6; what++) {
            s.append(x.all(what, false)).append(' ').append(x.all(what, true)).append(' ');
        }
        for (int what = 0; what < 9; what++) {
            s.append(x.look(0, what)).append(' ').append(x.about(0, what)).append(' ').append(x.written(0, what)).append(' ');
        }
        for (int what = 0; what < 6; what++) {
            s.append(x.holder(0, 4, what)).append(' ').append(x.stolen(0, 0, what)).append(' ').append(x.fault(what)).append(' ');
        }
        return s.append(x.owed(0)).append(' ').append(x.owed(5)).append(' ').append(x.ran(1)).toString();
    }

    private static void same(String call, String got, String want) {
        if (!got.equals(want)) {
            wrong++;
            System.out.println(part + ": " + call + " has " + got + ", due is " + want);
        }
    }

    private static void image() {
        CliffWater x = told();
        String before = allThatIsTold(x);
        due("another k", x.image(3), false);
        due("another k", x.image(-1), false);
        due("image", x.image(2), true);
        same("an image changes nothing", allThatIsTold(x), before);
        change(x);
        String after = allThatIsTold(x);
        due("image", x.image(0), true);
        due("again", x.again(2), true);
        same("again(2)", allThatIsTold(x), before);
        due("again", x.again(0), true);
        same("again(0)", allThatIsTold(x), after);
        due("image anew", x.image(2), true);
        due("again", x.again(2), true);
        same("again(2)", allThatIsTold(x), after);
    }

    private static void again() {
        CliffWater x = told();
        String before = allThatIsTold(x);
        due("none such", x.again(1), false);
        x.image(1);
        change(x);
        due("none such", x.again(0), false);
        due("none such", x.again(3), false);
        due("none such", x.again(-1), false);
        due("again", x.again(1), true);
        same("again(1)", allThatIsTold(x), before);
        due("the tape, too", x.end(20), 20);
        due("the tape, too", x.statute(), 1);
        x.feed(-1, -1, -1, -1, -1);
        x.again(1);
        due("the bytes of the tape, too", x.statute(), 1);
        change(x);
        due("an image stays", x.again(1), true);
        same("again(1)", allThatIsTold(x), before);
        x.go(1);
        due("what is under way goes on", x.about(1, 3), 4 * (89 - 30));
        due("what is under way goes on", x.about(1, 4), 4 * (90 - 30));
        closes(x);
        againGoesOn();
    }

    /** What came after an image comes again in the same way. */
    private static void againGoesOn() {
        CliffWater x = told();
        x.image(0);
        x.go(30);
        String first = allThatIsTold(x);
        x.again(0);
        x.go(30);
        same("the same 30 quarters", allThatIsTold(x), first);
    }

    public static void main(String[] args) {
        part = "promise 1"; newObject();
        part = "promise 2"; node();
        part = "promise 3"; channel();
        part = "promise 4"; size();
        part = "promise 5"; broken();
        part = "promise 6"; open();
        part = "promise 7"; path();
        part = "promise 8"; along();
        part = "promise 9"; go();
        part = "promise 10"; about();
        part = "promise 11"; look();
        part = "promise 12"; all();
        part = "promise 13"; field();
        part = "promise 14"; deed();
        part = "promise 15"; annul();
        part = "promise 16"; written();
        part = "promise 17"; owner();
        part = "promise 18"; ran();
        part = "promise 19"; owed();
        part = "promise 20"; feed();
        part = "promise 21"; end();
        part = "promise 22"; statute();
        part = "promise 23"; fault();
        part = "promise 24"; dry();
        part = "promise 25"; holder();
        part = "promise 26"; duty();
        part = "promise 27"; lay();
        part = "promise 28"; laid();
        part = "promise 29"; gauge();
        part = "promise 30"; stolen();
        part = "promise 31"; count();
        part = "promise 32"; image();
        part = "promise 33"; again();
        System.out.println(wrong == 0 ? "all promises hold" : wrong + " answers are not as due");
        if (wrong != 0) {
            System.exit(1);
        }
    }
}
