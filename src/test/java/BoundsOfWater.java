/** Promise 9 and the stepping in 'Terms' 1 and 2: each sentence that names a boundary as quarters go by. */
public final class BoundsOfWater {
    private static int springs = 0;

    private static void limitsOfGo() {
        Due.sentence("Promise 9", "So many QUARTERS go by, 1 .. 96: which one it is now");
        CliffWater x = new CliffWater();
        Due.is("go(1)", x.go(1), 1);
        Due.is("go(96)", x.go(96), 97);
        Due.is("count(3)", x.count(3), 97);
        Due.sentence("Promise 9", "NONE: another number");
        for (int n : new int[] {0, -1, 97, Integer.MIN_VALUE, Integer.MAX_VALUE}) {
            Untouched.by("go(" + n + ")", Worlds.TOLD, y -> y.go(n), -1);
            Untouched.by("go(" + n + ")", Worlds.NEW, y -> y.go(n), -1);
        }
        Due.sentence("Promise 9", "NONE: it would be above 9599");
        CliffWater late = Worlds.late(9503);
        Due.is("count(3)", late.count(3), 9503);
        Due.is("go(96)", late.go(96), 9599);
        Due.is("go(1)", late.go(1), -1);
        Due.is("count(3)", late.count(3), 9599);
        late = Worlds.late(9504);
        Due.is("go(96)", late.go(96), -1);
        Due.is("go(95)", late.go(95), 9599);
        late = Worlds.late(9598);
        Due.is("go(2)", late.go(2), -1);
        Due.is("go(1)", late.go(1), 9599);
        Untouched.by("go(96)", Worlds.LATE_9504, y -> y.go(96), -1);
        Untouched.by("go(1)", Worlds.LATE_9599, y -> y.go(1), -1);
        Untouched.by("go(96)", Worlds.LATE_9599, y -> y.go(96), -1);
    }

    private static void calendar() {
        Due.sentence("Terms 2", "an HOUR has 4, a DAY 24 HOURS, a WEEK 7 DAYS");
        int[][] known = {{0, 0, 0, 0}, {1, 0, 0, 1}, {4, 0, 0, 1}, {5, 0, 0, 2}, {95, 0, 0, 24}, {96, 1, 0, 24}, {97, 1, 0, 25},
            {191, 1, 0, 48}, {192, 2, 0, 48}, {671, 6, 0, 168}, {672, 7, 1, 168}, {673, 7, 1, 169}, {1343, 13, 1, 336},
            {1344, 14, 2, 336}, {9407, 97, 13, 2352}, {9408, 98, 14, 2352}, {9504, 99, 14, 2376}, {9596, 99, 14, 2399},
            {9597, 99, 14, 2400}, {9599, 99, 14, 2400}};
        CliffWater x = new CliffWater();
        for (int[] k : known) {
            for (int q = x.count(3); q < k[0]; q = x.count(3)) {
                x.go(Math.min(96, k[0] - q));
            }
            Due.is("QUARTER", x.count(3), k[0]);
            Due.is("DAY of QUARTER " + k[0], x.count(4), k[1]);
            Due.is("WEEK of QUARTER " + k[0], x.count(5), k[2]);
            Due.is("HOURS that RAN by QUARTER " + k[0], x.count(6), k[3]);
        }
    }

    /** A spring and a node of another kind behind it, with a channel between them that is open. */
    private static CliffWater two(int rate, int kind, int size, int breadth) {
        CliffWater x = new CliffWater();
        x.node(0, rate);
        x.node(kind, size);
        x.channel(0, 1, 0, 0, 0, breadth);
        x.open(0, 0);
        return x;
    }

    private static void sums(CliffWater x, int what, int least, int most) {
        Due.is("all(" + what + ", false)", x.all(what, false), least);
        Due.is("all(" + what + ", true)", x.all(what, true), most);
    }

    private static void breadth() {
        Due.sentence("Terms 1", "OUT: all that came, at most BREADTH");
        for (int rate = 9; rate <= 11; rate++) {
            CliffWater x = two(rate, 4, 1, 10);
            x.go(1);
            sums(x, 1, Math.min(rate, 10), Math.min(rate, 10));
            sums(x, 4, Math.max(0, rate - 10), Math.max(0, rate - 10));
        }
        CliffWater one = two(999, 4, 1, 1);
        one.go(1);
        sums(one, 1, 1, 1);
        sums(one, 4, 998, 998);
        CliffWater wide = two(999, 4, 1, 9999);
        wide.go(1);
        sums(wide, 1, 999, 999);
        Due.sentence("Terms 1", "OUT of a TANK: all that it holds, at most BREADTH");
        for (int held = 9; held <= 11; held++) {
            CliffWater x = two(held, 2, 99, 99);
            x.node(4, 1);
            x.channel(1, 2, 0, 0, 0, 10);
            x.go(1);
            x.size(0, 0);
            x.open(1, 1);
            x.go(1);
            sums(x, 1, Math.min(held, 10), Math.min(held, 10));
            sums(x, 2, Math.max(0, held - 10), Math.max(0, held - 10));
            sums(x, 4, 0, 0);
        }
    }

    private static void nothingOpen() {
        Due.sentence("Terms 1", "OUT: if a CHANNEL of the NODE is OPEN; else 0");
        CliffWater x = new CliffWater();
        x.node(0, 40);
        x.node(4, 1);
        x.channel(0, 1, 0, 0, 0, 99);
        x.go(1);
        Due.sentence("Terms 1", "What came to a SPRING, JOINT or WHEEL and does not go OUT is SPILT");
        sums(x, 1, 0, 0);
        sums(x, 4, 40, 40);
        for (int kind = 0; kind <= 3; kind++) {
            CliffWater y = two(40, kind, kind == 1 ? 0 : 50, 30);
            y.node(4, 1);
            y.channel(1, 2, 0, 0, 0, 99);
            y.go(1);
            sums(y, 1, 0, 0);
            sums(y, 2, kind == 2 ? 30 : 0, kind == 2 ? 30 : 0);
            sums(y, 4, 10 + (kind == 0 ? 80 : kind == 2 ? 0 : 30), 10 + (kind == 0 ? 80 : kind == 2 ? 0 : 30));
            Due.is("POWER and what is under way", kind == 3 ? y.about(1, 4) : y.look(1, 8), 0);
        }
    }

    private static void room() {
        Due.sentence("Terms 1", "A TANK holds it; what is above its ROOM is SPILT");
        for (int rate = 99; rate <= 101; rate++) {
            CliffWater x = two(rate, 2, 100, 999);
            x.go(1);
            sums(x, 2, Math.min(100, rate), Math.min(100, rate));
            sums(x, 4, Math.max(0, rate - 100), Math.max(0, rate - 100));
            x.go(1);
            sums(x, 2, 100, 100);
            sums(x, 4, 2 * rate - 100, 2 * rate - 100);
        }
        Due.sentence("Terms 1", "A FIELD takes it all (above its THIRST, too)");
        CliffWater x = two(50, 4, 1, 999);
        x.go(3);
        Due.is("what it took", x.about(1, 3), 150);
        sums(x, 4, 0, 0);
    }

    /** A tank that holds enough, with a channel to a field. */
    private static CliffWater out(int litres, int low, int high) {
        CliffWater x = two(999, 2, 99999, 9999);
        x.node(4, 1);
        x.channel(1, 2, low, high, 0, litres);
        x.go(3);
        x.open(1, 1);
        x.go(1);
        return x;
    }

    private static void leaks() {
        Due.sentence("Terms 1", "OUT * leak / 1000, cut, is LEAKED: LEAST leaks by HIGH, MOST by LOW");
        int[][] known = {{999, 1, 2, 0, 1}, {1000, 1, 2, 1, 2}, {1001, 1, 2, 1, 2}, {1999, 0, 1, 0, 1}, {2000, 0, 1, 0, 2},
            {1, 500, 500, 0, 0}, {2, 499, 500, 0, 1}, {3, 500, 500, 1, 1}, {3, 334, 335, 1, 1}, {3, 333, 334, 0, 1}, {600, 0, 500, 0, 300}};
        for (int[] k : known) {
            CliffWater x = out(k[0], k[1], k[2]);
            sums(x, 5, k[4], k[3]);
            sums(x, 1, k[0] - k[4], k[0] - k[3]);
        }
        CliffWater each = two(999, 4, 1, 999);
        each.channel(0, 1, 1, 1, 0, 999);
        each.open(0, 1);
        each.go(3);
        sums(each, 5, 0, 0);
    }

    private static void power() {
        Due.sentence("Terms 1", "POWER of a WHEEL: OUT * FALL / 100, cut, more");
        int[][] known = {{99, 1, 0}, {100, 1, 1}, {199, 1, 1}, {200, 1, 2}, {1, 99, 0}, {1, 100, 1}, {1, 500, 5}, {999, 500, 4995}, {3, 333, 9}};
        for (int[] k : known) {
            CliffWater x = two(k[0], 3, k[1], 9999);
            x.node(1, 0);
            x.channel(1, 2, 0, 0, 0, 9999);
            x.open(1, 1);
            x.go(1);
            Due.is("POWER of " + k[0] + " at " + k[1], x.about(1, 3), k[2]);
            x.go(1);
            Due.is("each QUARTER's is cut", x.about(1, 4), 2 * k[2]);
        }
        CliffWater x = two(200, 3, 100, 9999);
        x.node(1, 0);
        x.channel(1, 2, 300, 500, 0, 120);
        x.open(1, 1);
        x.go(1);
        Due.is("of OUT, not of what came, nor less the leak", x.about(1, 3), 120);
        x.broken(1, true);
        x.go(1);
        Due.is("of OUT that is LOST, too", x.about(1, 4), 240);
        sums(x, 6, 120, 120);
    }

    private static void travel() {
        Due.sentence("Terms 1", "the rest comes out TRAVEL QUARTERS later (0: in the same one)");
        for (int travel = 0; travel <= 8; travel++) {
            CliffWater x = new CliffWater();
            x.node(0, 10);
            x.node(4, 1);
            x.channel(0, 1, 0, 100, travel, 10);
            x.open(0, 0);
            for (int n = 1; n <= 20; n++) {
                x.go(1);
                int came = Math.max(0, n - travel);
                Due.is("taken by TRAVEL " + travel, x.about(1, 3), 9 * came);
                Due.is("taken by TRAVEL " + travel, x.about(1, 4), 10 * came);
                Due.is("under way by TRAVEL " + travel, x.look(0, 7), 9 * (n - came));
                Due.is("under way by TRAVEL " + travel, x.look(0, 8), 10 * (n - came));
            }
        }
        Due.sentence("Terms 1", "NODE by NODE; CHANNELS lead to greater NODES");
        CliffWater x = new CliffWater();
        x.node(0, 7);
        for (int v = 1; v < 9; v++) {
            x.node(v == 4 ? 2 : v == 6 ? 3 : 1, v == 4 || v == 6 ? 9 : 0);
        }
        x.node(4, 1);
        for (int v = 0; v < 9; v++) {
            x.channel(v, v + 1, 0, 0, 0, 9);
            x.open(v, v);
        }
        x.go(1);
        Due.is("through all nodes in one QUARTER", x.about(9, 3), 7);
        sums(x, 3, 0, 0);
    }

    private static CliffWater underWay() {
        CliffWater x = new CliffWater();
        x.node(0, 100);
        x.node(0, 10);
        x.node(4, 1);
        x.channel(0, 2, 0, 100, 3, 70);
        x.channel(1, 2, 0, 0, 8, 10);
        x.open(0, 0);
        x.open(1, 1);
        return x;
    }

    private static void breaks() {
        Due.sentence("Terms 1", "What is under way in a CHANNEL as it BREAKS is LOST");
        CliffWater x = underWay();
        x.broken(0, true);
        sums(x, 6, 0, 0);
        x.broken(0, false);
        x.go(3);
        Due.is("broken", x.broken(0, true), true);
        sums(x, 6, 189, 210);
        Due.is("look(0, 7)", x.look(0, 7), 0);
        Due.is("look(0, 8)", x.look(0, 8), 0);
        Due.is("in another one it stays, look(1, 7)", x.look(1, 7), 30);
        Due.is("in another one it stays, look(1, 8)", x.look(1, 8), 30);
        Due.sentence("Terms 1", "OUT into a BROKEN CHANNEL is LOST (all, without a leak)");
        sums(x, 5, 21, 0);
        x.go(1);
        sums(x, 6, 259, 280);
        sums(x, 5, 21, 0);
        sums(x, 4, 120, 120);
        Due.is("mended", x.broken(0, false), true);
        sums(x, 6, 259, 280);
        x.go(3);
        sums(x, 1, 0, 0);
        x.go(1);
        sums(x, 1, 63, 70);
        x.go(1);
        sums(x, 1, 126 + 10, 140 + 10);
    }

    private static void allThatSpringsGave() {
        Due.sentence("Terms 1", "in each RUN at all times: all that springs gave is taken, held, under way, SPILT, LEAKED and LOST, together");
        for (int end = 0; end < 2; end++) {
            CliffWater x = Worlds.told();
            for (int n = 0; n < 10; n++) {
                x.broken(n % 8, n % 3 == 0);
                closes(x, false);
                closes(x, true);
                x.go(end == 0 ? 1 : 37);
                closes(x, false);
                closes(x, true);
            }
            springs += x.all(0, true);
        }
        Due.is("all that they gave", springs, 130 * (163 + 153 + 370));
    }

    private static void closes(CliffWater x, boolean most) {
        long sum = 0;
        for (int what = 1; what <= 6; what++) {
            sum += x.all(what, most);
        }
        Due.is("together", sum, x.all(0, most));
    }

    /** A joint and two fields behind a spring; the first two hours are holder 0's, the next two holder 1's. */
    private static CliffWater hours() {
        CliffWater x = new CliffWater();
        x.node(0, 10);
        x.node(1, 0);
        x.node(4, 1);
        x.node(4, 1);
        x.channel(0, 1, 0, 0, 0, 10);
        x.channel(1, 2, 0, 0, 0, 10);
        x.channel(1, 3, 0, 0, 0, 10);
        x.field(0, 2);
        x.field(1, 3);
        x.deed(0, 1, 0, 0);
        x.deed(2, 3, 1, 0);
        return x;
    }

    private static void beginOfHours() {
        Due.sentence("Terms 2", "As an HOUR begins (its first QUARTER, ahead of it), the OWNER has its PATH OPENED");
        CliffWater x = hours();
        Due.is("ahead of the first QUARTER", x.about(1, 2), -1);
        x.go(1);
        Due.is("each CHANNEL of it is the OPEN one of its NODE", x.about(0, 2), 0);
        Due.is("each CHANNEL of it is the OPEN one of its NODE", x.about(1, 2), 1);
        Due.is("in its first QUARTER", x.about(2, 3), 10);
        x.open(1, 2);
        x.go(3);
        Due.is("not again in its other ones", x.about(1, 2), 2);
        Due.is("not again in its other ones", x.about(3, 3), 30);
        x.go(1);
        Due.is("in the next HOUR", x.about(1, 2), 1);
        x.go(3);
        Due.is("QUARTER 8, by which the HOUR has not begun", x.about(1, 2), 1);
        x.go(1);
        Due.is("QUARTER 9", x.about(1, 2), 2);
        Due.is("what field 2 took", x.about(2, 4), 50);
        Due.is("what field 3 took", x.about(3, 4), 40);
        x.go(7);
        Due.is("QUARTER 16", x.about(1, 2), 2);
        x.open(1, 1);
        x.go(1);
        Due.sentence("Terms 2", "else nothing is turned");
        Due.is("an HOUR of none", x.about(1, 2), 1);
        withoutPath();
    }

    private static void withoutPath() {
        CliffWater x = hours();
        x.broken(0, true);
        x.go(1);
        Due.is("no PATH", x.about(0, 2), -1);
        Due.is("no PATH", x.about(1, 2), -1);
        Due.is("it RAN for the OWNER", x.ran(0), 0);
        x.broken(0, false);
        x.field(0, -1);
        x.go(4);
        Due.is("no FIELD", x.about(0, 2), -1);
        Due.is("no FIELD", x.about(1, 2), -1);
        Due.is("it RAN for the OWNER", x.ran(1), 0);
        x.go(4);
        Due.is("a FIELD and a PATH", x.about(0, 2), 0);
        Due.is("a FIELD and a PATH", x.about(1, 2), 2);
        CliffWater y = new CliffWater();
        y.node(4, 1);
        y.field(0, 0);
        y.deed(0, 0, 0, 0);
        y.go(1);
        Due.is("the FIELD is NODE 0: they are one", y.about(0, 2), -1);
        Due.is("far", y.holder(0, 0, 5), 999);
    }

    private static void knownAsHoursBegin() {
        Due.sentence("Terms 2", "the OWNER as known on that DAY, now");
        CliffWater x = hours();
        x.annul(0);
        x.go(1);
        Due.is("a DEED found VOID on that DAY", x.ran(0), -1);
        Due.is("a DEED found VOID on that DAY", x.about(1, 2), -1);
        x.deed(1, 1, 0, 0);
        x.go(4);
        Due.is("a DEED written on that DAY", x.ran(1), 0);
        Due.is("a DEED written on that DAY", x.about(1, 2), 1);
        Due.sentence("Terms 2", "HOURS a .. b of the week go to a HOLDER from a WEEK on");
        CliffWater y = hours();
        y.deed(167, 167, 2, 0);
        y.deed(0, 0, 3, 1);
        y.deed(1, 1, 4, 2);
        for (int i = 0; i < 14; i++) {
            y.go(96);
        }
        int[][] known = {{0, 0}, {1, 0}, {2, 1}, {3, 1}, {4, -1}, {166, -1}, {167, 2}, {168, 3}, {169, 0}, {170, 1}, {334, -1},
            {335, 2}, {336, -2}};
        for (int[] k : known) {
            Due.is("ran(" + k[0] + ")", y.ran(k[0]), k[1]);
        }
        y.go(96);
        Due.is("ran(336)", y.ran(336), 3);
        Due.is("ran(337)", y.ran(337), 4);
    }

    public static void main(String[] args) {
        limitsOfGo();
        calendar();
        breadth();
        nothingOpen();
        room();
        leaks();
        power();
        travel();
        breaks();
        allThatSpringsGave();
        beginOfHours();
        knownAsHoursBegin();
        Due.end();
    }
}
