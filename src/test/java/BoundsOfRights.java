/** Promises 13 to 19 and 'Terms' 2: each sentence that names a boundary of fields, deeds, owners and what is owed. */
public final class BoundsOfRights {
    private static final int LOWEST = Integer.MIN_VALUE;
    private static final int HIGHEST = Integer.MAX_VALUE;

    // told() has fields 5 .. 7 among nodes 0 .. 7

    private static void fields() {
        Due.sentence("Promise 13", "The FIELD of a HOLDER (NONE: none): true");
        int[][] right = {{0, 5}, {7, 5}, {1, 7}, {0, -1}, {7, -1}, {2, -1}};
        for (int[] n : right) {
            CliffWater x = Worlds.told();
            Due.is("field(" + n[0] + ", " + n[1] + ")", x.field(n[0], n[1]), true);
            Due.is("far", x.holder(n[0], 0, 5), n[1] == -1 ? 999 : x.path(0, n[1]));
            Due.is("field(" + n[0] + ", " + n[1] + ") again", x.field(n[0], n[1]), true);
        }
        Due.sentence("Promise 13", "false: there is none such (HOLDERS are 0 .. 7)");
        for (int h : new int[] {-1, 8, LOWEST, HIGHEST}) {
            Untouched.by("field(" + h + ", 5)", Worlds.TOLD, x -> Due.bit(x.field(h, 5)), 0);
            Untouched.by("field(" + h + ", -1)", Worlds.TOLD, x -> Due.bit(x.field(h, -1)), 0);
        }
        Due.sentence("Promise 13", "false: there is none such (a FIELD)");
        for (int v : new int[] {-2, 0, 1, 2, 3, 4, 8, 9, 10, LOWEST, HIGHEST}) {
            Untouched.by("field(0, " + v + ")", Worlds.TOLD, x -> Due.bit(x.field(0, v)), 0);
            Untouched.by("field(1, " + v + ")", Worlds.TOLD, x -> Due.bit(x.field(1, v)), 0);
        }
        Due.sentence("Terms 2", "HOLDERS have a FIELD each, or none (at first)");
        CliffWater x = new CliffWater();
        x.node(0, 1);
        x.node(4, 1);
        x.channel(0, 1, 0, 0, 4, 1);
        for (int h = 0; h < 8; h++) {
            Due.is("holder(" + h + ", 0, 5)", x.holder(h, 0, 5), 999);
            x.field(h, 1);
            Due.is("holder(" + h + ", 0, 5)", x.holder(h, 0, 5), 4);
        }
    }

    // Deeds; told() has 5, on DAY 1

    private static void isTaken(int a, int b, int holder, int week) {
        CliffWater x = Worlds.told();
        String call = "deed(" + a + ", " + b + ", " + holder + ", " + week + ")";
        Due.is(call, x.deed(a, b, holder, week), 5);
        int[] written = {a, b, holder, week, 1, -1};
        for (int what = 0; what < 6; what++) {
            Due.is(call + ", written(5, " + what + ")", x.written(5, what), written[what]);
        }
        Due.is(call + ", count(2)", x.count(2), 6);
    }

    private static void isRefused(Worlds.World world, int a, int b, int holder, int week) {
        String call = "deed(" + a + ", " + b + ", " + holder + ", " + week + ")";
        Untouched.by(call, world, x -> x.deed(a, b, holder, week), -1);
    }

    private static void deeds() {
        Due.sentence("Terms 2", "HOURS a .. b of the week (0 .. 167)");
        isTaken(0, 0, 3, 2);
        isTaken(167, 167, 3, 2);
        isTaken(0, 167, 3, 2);
        isRefused(Worlds.TOLD, -1, 5, 3, 2);
        isRefused(Worlds.TOLD, -1, -1, 3, 2);
        isRefused(Worlds.TOLD, 5, 168, 3, 2);
        isRefused(Worlds.TOLD, 168, 168, 3, 2);
        isRefused(Worlds.TOLD, LOWEST, 5, 3, 2);
        isRefused(Worlds.TOLD, 5, HIGHEST, 3, 2);
        Due.sentence("Promise 14", "NONE: other numbers (a above b, too)");
        isTaken(80, 80, 3, 2);
        isTaken(80, 81, 3, 2);
        isRefused(Worlds.TOLD, 81, 80, 3, 2);
        isRefused(Worlds.TOLD, 167, 0, 3, 2);
        isRefused(Worlds.TOLD, 167, LOWEST, 3, 2);
        Due.sentence("Terms 2", "HOLDERS 0 .. 7");
        isTaken(3, 4, 0, 2);
        isTaken(3, 4, 7, 2);
        for (int h : new int[] {-1, 8, LOWEST, HIGHEST}) {
            isRefused(Worlds.TOLD, 3, 4, h, 2);
        }
        Due.sentence("Terms 2", "from a WEEK on (0 .. 99)");
        isTaken(3, 4, 5, 0);
        isTaken(3, 4, 5, 99);
        for (int w : new int[] {-1, 100, LOWEST, HIGHEST}) {
            isRefused(Worlds.TOLD, 3, 4, 5, w);
        }
        Due.sentence("Terms 2", "DEEDS, at most 120, from 0 on");
        CliffWater x = new CliffWater();
        for (int d = 0; d < 120; d++) {
            Due.is("deed " + d, x.deed(d, d, d % 8, 0), d);
        }
        Due.is("the last one", x.written(119, 0), 119);
        Due.is("the last one's HOUR", x.owner(119, 0, 0), 7);
        Due.sentence("Promise 14", "NONE: there are 120");
        isRefused(Worlds.ALL_DEEDS, 0, 0, 0, 0);
        isRefused(Worlds.ALL_DEEDS, 0, 167, 7, 99);
        Due.is("annul(119) of them", Worlds.deeds(120).annul(119), true);
    }

    private static void annul() {
        Due.sentence("Promise 15", "A DEED is found VOID: true; false: it is");
        CliffWater x = Worlds.told();
        Due.is("annul(0)", x.annul(0), true);
        Due.is("annul(0)", x.annul(0), false);
        Due.is("annul(4)", x.annul(4), true);
        Due.is("written(4, 5)", x.written(4, 5), 1);
        Due.is("written(3, 5)", x.written(3, 5), -1);
        Untouched.by("annul(1), which is VOID", Worlds.TOLD, y -> Due.bit(y.annul(1)), 0);
        CliffWater late = Worlds.told();
        late.go(96);
        Due.is("annul(1), DAYS later", late.annul(1), false);
        Due.is("the DAY stays, written(1, 5)", late.written(1, 5), 1);
        Due.sentence("Promise 15", "false: there is none such");
        for (int d : new int[] {-1, 5, 119, 120, LOWEST, HIGHEST}) {
            Untouched.by("annul(" + d + ")", Worlds.TOLD, y -> Due.bit(y.annul(d)), 0);
        }
        Untouched.by("annul(120)", Worlds.ALL_DEEDS, y -> Due.bit(y.annul(120)), 0);
        Untouched.by("annul(0)", Worlds.NEW, y -> Due.bit(y.annul(0)), 0);
    }

    private static void written() {
        Due.sentence("Promise 16", "-2 if there is none such");
        CliffWater x = Worlds.told();
        for (int d : new int[] {-1, 5, 119, 120, LOWEST, HIGHEST}) {
            for (int what = -1; what <= 6; what++) {
                Due.is("written(" + d + ", " + what + ")", x.written(d, what), -2);
            }
        }
        Due.sentence("Promise 16", "-2 for another what");
        for (int d = 0; d < 5; d++) {
            for (int what : new int[] {-1, 6, LOWEST, HIGHEST}) {
                Due.is("written(" + d + ", " + what + ")", x.written(d, what), -2);
            }
        }
        Untouched.by("written(5, 6)", Worlds.TOLD, y -> y.written(5, 6), -2);
        Due.sentence("Promise 16", "0, 1: its HOURS a, b, 2: the HOLDER, 3: from which WEEK, 4: DAY written, 5: DAY found VOID (NONE)");
        int[][] known = {{0, 40, 0, 0, 0, -1}, {10, 12, 3, 0, 0, 1}, {0, 167, 7, 1, 0, -1}, {25, 60, 5, 0, 1, -1}, {5, 9, 4, 99, 1, -1}};
        for (int d = 0; d < 5; d++) {
            for (int what = 0; what < 6; what++) {
                Due.is("written(" + d + ", " + what + ")", x.written(d, what), known[d][what]);
            }
        }
        Due.sentence("Terms 2", "written on the DAY of now; found VOID on the DAY of now");
        CliffWater y = new CliffWater();
        y.go(95);
        y.deed(0, 0, 0, 0);
        y.deed(0, 0, 0, 0);
        y.annul(0);
        y.go(1);
        y.deed(0, 0, 0, 0);
        y.annul(1);
        Due.is("at QUARTER 95", y.written(0, 4), 0);
        Due.is("at QUARTER 95", y.written(0, 5), 0);
        Due.is("at QUARTER 96", y.written(1, 5), 1);
        Due.is("at QUARTER 96", y.written(2, 4), 1);
        CliffWater z = Worlds.late(9599);
        int d = z.deed(0, 0, 0, 0);
        z.annul(d);
        Due.is("at QUARTER 9599", z.written(d, 4), 99);
        Due.is("at QUARTER 9599", z.written(d, 5), 99);
    }

    // Owners

    private static void limitsOfOwner() {
        Due.sentence("Promise 17", "-2: there is none such (of any)");
        CliffWater x = new CliffWater();
        x.deed(0, 167, 6, 0);
        Due.is("owner(0, 0, 0)", x.owner(0, 0, 0), 6);
        Due.is("owner(167, 0, 0)", x.owner(167, 0, 0), 6);
        Due.is("owner(0, 99, 0)", x.owner(0, 99, 0), 6);
        int[][] none = {{-1, 0, 0}, {168, 0, 0}, {0, -1, 0}, {0, 100, 0}, {0, 0, -1}, {0, 0, 1}, {LOWEST, 0, 0}, {HIGHEST, 0, 0},
            {0, LOWEST, 0}, {0, HIGHEST, 0}, {0, 0, LOWEST}, {0, 0, HIGHEST}, {-1, -1, -1}, {168, 100, 1}};
        for (int[] n : none) {
            Due.is("owner(" + n[0] + ", " + n[1] + ", " + n[2] + ")", x.owner(n[0], n[1], n[2]), -2);
        }
        Untouched.by("owner(0, 0, 2)", Worlds.TOLD, y -> y.owner(0, 0, 2), -2);
        Due.sentence("Terms 2", "AS KNOWN on a DAY k (0 up to now)");
        x.go(95);
        Due.is("owner(0, 0, 1) at QUARTER 95", x.owner(0, 0, 1), -2);
        x.go(1);
        Due.is("owner(0, 0, 1) at QUARTER 96", x.owner(0, 0, 1), 6);
        Due.is("owner(0, 0, 0) at QUARTER 96", x.owner(0, 0, 0), 6);
        Due.is("owner(0, 0, 2) at QUARTER 96", x.owner(0, 0, 2), -2);
        CliffWater late = Worlds.late(9599);
        Due.is("owner(0, 99, 99) at QUARTER 9599", late.owner(0, 99, 99), 7);
        Due.is("owner(0, 99, 100) at QUARTER 9599", late.owner(0, 99, 100), -2);
    }

    private static void owners() {
        Due.sentence("Terms 2", "None without any");
        CliffWater x = new CliffWater();
        Due.is("owner(0, 0, 0)", x.owner(0, 0, 0), -1);
        Due.sentence("Terms 2", "by the DEEDS of that HOUR");
        x.deed(50, 60, 1, 10);
        Due.is("owner(49, 10, 0)", x.owner(49, 10, 0), -1);
        Due.is("owner(50, 10, 0)", x.owner(50, 10, 0), 1);
        Due.is("owner(60, 10, 0)", x.owner(60, 10, 0), 1);
        Due.is("owner(61, 10, 0)", x.owner(61, 10, 0), -1);
        Due.sentence("Terms 2", "from that WEEK or earlier");
        Due.is("owner(55, 9, 0)", x.owner(55, 9, 0), -1);
        Due.is("owner(55, 10, 0)", x.owner(55, 10, 0), 1);
        Due.is("owner(55, 11, 0)", x.owner(55, 11, 0), 1);
        Due.sentence("Terms 2", "that from the latest WEEK");
        x.deed(55, 55, 2, 12);
        x.deed(55, 55, 3, 11);
        Due.is("owner(55, 10, 0)", x.owner(55, 10, 0), 1);
        Due.is("owner(55, 11, 0)", x.owner(55, 11, 0), 3);
        Due.is("owner(55, 12, 0)", x.owner(55, 12, 0), 2);
        Due.is("owner(55, 99, 0)", x.owner(55, 99, 0), 2);
        Due.sentence("Terms 2", "of several the one written last");
        x.deed(54, 56, 4, 11);
        Due.is("owner(55, 11, 0)", x.owner(55, 11, 0), 4);
        Due.is("owner(55, 12, 0)", x.owner(55, 12, 0), 2);
        x.deed(55, 55, 5, 12);
        Due.is("owner(55, 12, 0)", x.owner(55, 12, 0), 5);
        x.annul(4);
        Due.is("owner(55, 12, 0)", x.owner(55, 12, 0), 2);
    }

    private static void known() {
        CliffWater x = new CliffWater();
        x.deed(0, 9, 0, 0);
        x.go(96);
        Due.sentence("Terms 2", "by the DEEDS written by then");
        x.deed(0, 9, 1, 0);
        Due.is("owner(5, 0, 0)", x.owner(5, 0, 0), 0);
        Due.is("owner(5, 0, 1)", x.owner(5, 0, 1), 1);
        x.go(96);
        x.go(96);
        Due.is("owner(5, 0, 0)", x.owner(5, 0, 0), 0);
        Due.is("owner(5, 0, 1)", x.owner(5, 0, 1), 1);
        Due.is("owner(5, 0, 3)", x.owner(5, 0, 3), 1);
        Due.sentence("Terms 2", "not VOID by then");
        x.annul(1);
        Due.is("owner(5, 0, 1)", x.owner(5, 0, 1), 1);
        Due.is("owner(5, 0, 2)", x.owner(5, 0, 2), 1);
        Due.is("owner(5, 0, 3)", x.owner(5, 0, 3), 0);
        x.go(96);
        Due.is("owner(5, 0, 2)", x.owner(5, 0, 2), 1);
        Due.is("owner(5, 0, 3)", x.owner(5, 0, 3), 0);
        Due.is("owner(5, 0, 4)", x.owner(5, 0, 4), 0);
        x.annul(0);
        Due.is("owner(5, 0, 0)", x.owner(5, 0, 0), 0);
        Due.is("owner(5, 0, 3)", x.owner(5, 0, 3), 0);
        Due.is("owner(5, 0, 4)", x.owner(5, 0, 4), -1);
        Due.is("written and found VOID on one DAY", x.deed(7, 7, 6, 0), 2);
        x.annul(2);
        Due.is("owner(7, 0, 4)", x.owner(7, 0, 4), -1);
        Due.is("owner(7, 0, 1)", x.owner(7, 0, 1), 1);
    }

    // Hours that ran, and what is owed

    private static void ran() {
        Due.sentence("Promise 18", "-2: it has not begun");
        CliffWater x = new CliffWater();
        x.deed(0, 0, 3, 0);
        Due.is("ran(0) at QUARTER 0", x.ran(0), -2);
        x.go(1);
        Due.is("ran(0) at QUARTER 1", x.ran(0), 3);
        Due.is("ran(1) at QUARTER 1", x.ran(1), -2);
        x.go(3);
        Due.is("ran(1) at QUARTER 4", x.ran(1), -2);
        x.go(1);
        Due.sentence("Promise 18", "NONE: for none");
        Due.is("ran(1) at QUARTER 5", x.ran(1), -1);
        Due.is("ran(2) at QUARTER 5", x.ran(2), -2);
        for (int i : new int[] {-1, 2399, 2400, LOWEST, HIGHEST}) {
            Due.is("ran(" + i + ")", x.ran(i), -2);
        }
        Untouched.by("ran(60)", Worlds.TOLD, y -> y.ran(60), -2);
        CliffWater late = Worlds.late(9596);
        Due.is("ran(2398) at QUARTER 9596", late.ran(2398), 7);
        Due.is("ran(2399) at QUARTER 9596", late.ran(2399), -2);
        late.go(1);
        Due.is("ran(2399) at QUARTER 9597", late.ran(2399), 7);
        late.go(2);
        Due.is("ran(2399) at QUARTER 9599", late.ran(2399), 7);
        Due.is("ran(2400) at QUARTER 9599", late.ran(2400), -2);
        Due.sentence("Terms 2", "It is kept for whom it RAN");
        x.annul(0);
        x.deed(0, 1, 4, 0);
        Due.is("ran(0)", x.ran(0), 3);
        Due.is("ran(1)", x.ran(1), -1);
    }

    private static void owed() {
        Due.sentence("Promise 19", "-100000: there is none such");
        CliffWater x = new CliffWater();
        for (int h : new int[] {-1, 8, LOWEST, HIGHEST}) {
            Due.is("owed(" + h + ")", x.owed(h), -100000);
        }
        Untouched.by("owed(8)", Worlds.TOLD, y -> y.owed(8), -100000);
        Due.is("owed(0)", x.owed(0), 0);
        Due.is("owed(7)", x.owed(7), 0);
        Due.sentence("Terms 2", "OWED: of all HOURS that RAN (those that have begun)");
        x.deed(0, 167, 0, 0);
        Due.is("owed(0) at QUARTER 0", x.owed(0), 0);
        x.annul(0);
        x.go(4);
        x.deed(0, 167, 1, 0);
        Due.is("owed(1) at QUARTER 4", x.owed(1), 1);
        x.annul(1);
        x.go(1);
        x.deed(0, 167, 1, 0);
        Due.is("owed(1) at QUARTER 5", x.owed(1), 2);
        Due.sentence("Terms 2", "those that are its own by DEEDS as known now, but RAN for others or none");
        x.go(4);
        Due.is("RAN for it", x.owed(1), 2);
        x.deed(2, 2, 2, 0);
        Due.is("RAN for another one", x.owed(2), 1);
        Due.sentence("Terms 2", "less those that RAN for it, but are not its own now");
        Due.is("another one's now", x.owed(1), 1);
        x.annul(3);
        Due.is("its own again", x.owed(1), 2);
        Due.is("not its own", x.owed(2), 0);
        x.annul(2);
        Due.is("none's now", x.owed(1), -1);
    }

    private static void owedByWeeks() {
        Due.sentence("Terms 2", "OWED goes by the WEEK of each HOUR");
        CliffWater x = new CliffWater();
        for (int i = 0; i < 7; i++) {
            x.go(96);
        }
        x.go(1);
        x.deed(167, 167, 1, 0);
        x.deed(0, 0, 2, 1);
        x.deed(1, 1, 3, 1);
        x.deed(0, 1, 4, 0);
        Due.is("HOUR 167 of WEEK 0", x.owed(1), 1);
        Due.is("HOUR 0 of WEEK 1", x.owed(2), 1);
        Due.is("HOUR 1 of WEEK 1 has not begun", x.owed(3), 0);
        Due.is("HOURS 0, 1 of WEEK 0", x.owed(4), 2);
        CliffWater late = new CliffWater();
        for (int i = 0; i < 99; i++) {
            late.go(96);
        }
        late.deed(0, 167, 5, 0);
        late.deed(23, 23, 6, 14);
        late.deed(24, 24, 4, 14);
        late.deed(0, 0, 7, 15);
        Due.is("at QUARTER 9504", late.owed(5), 2375);
        Due.is("HOUR 2375 is 23 of WEEK 14", late.owed(6), 1);
        Due.is("HOUR 2376 has not begun", late.owed(4), 0);
        Due.is("WEEK 15 does not come", late.owed(7), 0);
        late.go(95);
        Due.is("at QUARTER 9599", late.owed(5), 2375);
        Due.is("HOUR 2376 RAN for it", late.ran(2376), 4);
        Due.is("HOUR 2376 RAN for it", late.owed(4), 0);
    }

    public static void main(String[] args) {
        fields();
        deeds();
        annul();
        written();
        limitsOfOwner();
        owners();
        known();
        ran();
        owed();
        owedByWeeks();
        Due.end();
    }
}
