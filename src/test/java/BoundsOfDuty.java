/** Promises 25 and 26 and 'Terms' 3: each sentence that names a boundary of hours, weights, cuts and yards. */
public final class BoundsOfDuty {
    private static final int LOWEST = Integer.MIN_VALUE;
    private static final int HIGHEST = Integer.MAX_VALUE;

    private static void limitsOfHolder() {
        Due.sentence("Promise 25", "NONE: there is none such (of either), or for another what");
        CliffWater x = new CliffWater();
        x.deed(0, 167, 0, 0);
        Due.is("holder(0, 0, 0)", x.holder(0, 0, 0), 168);
        Due.is("holder(0, 99, 0)", x.holder(0, 99, 0), 168);
        Due.is("holder(7, 0, 0)", x.holder(7, 0, 0), 0);
        Due.is("holder(7, 99, 5)", x.holder(7, 99, 5), 999);
        int[][] none = {{-1, 0}, {8, 0}, {0, -1}, {0, 100}, {LOWEST, 0}, {HIGHEST, 0}, {0, LOWEST}, {0, HIGHEST}, {8, 100}};
        for (int[] n : none) {
            for (int what = -1; what <= 6; what++) {
                Due.is("holder(" + n[0] + ", " + n[1] + ", " + what + ")", x.holder(n[0], n[1], what), -1);
            }
        }
        for (int what : new int[] {-1, 6, LOWEST, HIGHEST}) {
            Due.is("holder(0, 0, " + what + ")", x.holder(0, 0, what), -1);
            Due.is("holder(7, 99, " + what + ")", x.holder(7, 99, what), -1);
        }
        Untouched.by("holder(8, 0, 0)", Worlds.TOLD, y -> y.holder(8, 0, 0), -1);
        Untouched.by("holder(0, 100, 2)", Worlds.TOLD, y -> y.holder(0, 100, 2), -1);
        Untouched.by("holder(0, 0, 6)", Worlds.TOLD, y -> y.holder(0, 0, 6), -1);
    }

    private static void hours() {
        Due.sentence("Terms 3", "hours: how many are its own in the WEEK");
        CliffWater x = new CliffWater();
        x.deed(0, 0, 1, 5);
        x.deed(160, 167, 2, 5);
        x.deed(167, 167, 1, 6);
        int[][] known = {{1, 4, 0}, {1, 5, 1}, {1, 6, 2}, {1, 99, 2}, {2, 4, 0}, {2, 5, 8}, {2, 6, 7}, {2, 99, 7}, {3, 5, 0}};
        for (int[] k : known) {
            Due.is("holder(" + k[0] + ", " + k[1] + ", 0)", x.holder(k[0], k[1], 0), k[2]);
        }
        Due.sentence("Terms 3", "as known now");
        x.go(96);
        x.annul(2);
        Due.is("holder(1, 6, 0)", x.holder(1, 6, 0), 1);
        Due.is("holder(2, 6, 0)", x.holder(2, 6, 0), 8);
        Due.sentence("Terms 3", "night: those of them that are before 6 or from 18 on in their DAY");
        for (int h = 0; h < 168; h++) {
            if (h % 24 < 2 || h % 24 == 5 || h % 24 == 6 || h % 24 == 17 || h % 24 == 18 || h % 24 == 23) {
                CliffWater y = new CliffWater();
                y.deed(h, h, 4, 0);
                Due.is("HOUR " + h, y.holder(4, 0, 1), h % 24 == 6 || h % 24 == 17 ? 0 : 1);
                Due.is("HOUR " + h, y.holder(4, 0, 0), 1);
            }
        }
        CliffWater all = new CliffWater();
        all.deed(0, 167, 4, 0);
        Due.is("of the whole WEEK", all.holder(4, 0, 1), 84);
    }

    /** Asked in WEEK 2: what is owed there is nothing to an earlier one. */
    private static void hoursOfOtherWeeks() {
        Due.sentence("Terms 3", "hours are of the WEEK that is asked for, not of now");
        CliffWater x = new CliffWater();
        x.deed(0, 99, 1, 1);
        x.deed(50, 50, 2, 2);
        for (int i = 0; i < 15; i++) {
            x.go(96);
        }
        int[][] known = {{1, 0, 0}, {2, 0, 0}, {1, 1, 100}, {2, 1, 0}, {1, 2, 99}, {2, 2, 1}, {1, 0, 0}, {1, 3, 99}};
        for (int[] k : known) {
            Due.is("holder(" + k[0] + ", " + k[1] + ", 0)", x.holder(k[0], k[1], 0), k[2]);
            Due.is("owed(" + k[0] + ")", x.owed(k[0]), 0);
        }
    }

    private static void far() {
        Due.sentence("Terms 3", "far: TRAVEL of the PATH from NODE 0 to its FIELD, 999 without one");
        CliffWater x = new CliffWater();
        Due.is("without NODES", x.holder(0, 0, 5), 999);
        x.node(0, 1);
        x.node(4, 1);
        x.node(4, 1);
        x.channel(0, 1, 0, 0, 0, 1);
        x.channel(0, 2, 0, 0, 8, 1);
        Due.is("without a FIELD", x.holder(0, 0, 5), 999);
        x.field(0, 1);
        Due.is("TRAVEL 0", x.holder(0, 0, 5), 0);
        x.field(0, 2);
        Due.is("TRAVEL 8", x.holder(0, 0, 5), 8);
        Texts.law(x, "if far<8:weight 1;if far<9:weight 10;if far>7:weight 100;if far>8:weight 1000;if far=8:cut 3;", 5);
        Due.is("weight", x.holder(0, 0, 2), 110);
        Due.is("cut", x.holder(0, 0, 3), 3);
        x.broken(1, true);
        Due.is("without a PATH", x.holder(0, 0, 5), 999);
        Due.is("weight", x.holder(0, 0, 2), 1100);
        Due.is("cut", x.holder(0, 0, 3), 0);
        Due.is("another one, without a FIELD", x.holder(1, 0, 2), 1100);
    }

    private static void tests() {
        CliffWater x = new CliffWater();
        x.deed(0, 9, 3, 0);
        x.dry(1, true);
        Due.sentence("Terms 3", "TEST: ('<' | '>' | '=') NUMBER");
        Texts.law(x, "if hours<10:weight 1;if hours<11:weight 2;if hours>10:weight 4;if hours>9:weight 8;if hours=10:weight 16;"
            + "if hours=9:weight 32;if hours=11:weight 64;", 7);
        Due.is("10 hours", x.holder(3, 0, 2), 2 + 8 + 16);
        Texts.law(x, "if night<6:weight 1;if night<7:weight 2;if night>6:weight 4;if night>5:weight 8;if night=6:weight 16;", 5);
        Due.is("6 at night", x.holder(3, 0, 2), 2 + 8 + 16);
        Texts.law(x, "if holder<3:weight 1;if holder<4:weight 2;if holder>3:weight 4;if holder>2:weight 8;if holder=3:weight 16;", 5);
        Due.is("holder 2", x.holder(2, 0, 2), 3);
        Due.is("holder 3", x.holder(3, 0, 2), 2 + 8 + 16);
        Due.is("holder 4", x.holder(4, 0, 2), 4 + 8);
        Due.is("holder 0", x.holder(0, 0, 2), 3);
        Due.is("holder 7", x.holder(7, 0, 2), 12);
        Due.sentence("Terms 3", "TEST: ['not']");
        Texts.law(x, "if not hours<10:weight 1;if not hours<11:weight 2;if not hours=10:weight 4;if not hours>9:weight 8;if not dry:weight 16;", 5);
        Due.is("10 hours", x.holder(3, 0, 2), 1 + 16);
        Due.is("10 hours in a dry WEEK", x.holder(3, 1, 2), 1);
        Due.is("no hours", x.holder(4, 0, 2), 4 + 8 + 16);
        Due.sentence("Terms 3", "if all its TESTS hold");
        Texts.law(x, "if dry and hours=10:weight 1;if hours=10 and not dry:weight 2;if hours>0 and hours>1 and hours>2 and hours>9:weight 4;"
            + "if hours>0 and hours>1 and hours>2 and hours>10:weight 8;if hours>10 and dry and dry and dry:weight 16;", 5);
        Due.is("a dry WEEK", x.holder(3, 1, 2), 1 + 4);
        Due.is("another one", x.holder(3, 0, 2), 2 + 4);
        Due.sentence("Terms 3", "owed: OWED, 0 if below");
        x.go(4);
        x.annul(0);
        x.deed(0, 0, 5, 0);
        Texts.law(x, "if owed=0:weight 1;if owed<1:weight 2;if owed>0:weight 4;if owed=1:weight 8;if owed<2:weight 16;if owed>1:weight 32;", 6);
        Due.is("OWED 1", x.holder(5, 0, 2), 4 + 8 + 16);
        Due.is("OWED -1", x.holder(3, 0, 2), 1 + 2 + 16);
        Due.is("OWED 1", x.owed(5), 1);
        Due.is("OWED -1", x.owed(3), -1);
        Due.is("OWED 0", x.holder(6, 0, 2), 1 + 2 + 16);
    }

    private static void lines() {
        CliffWater x = new CliffWater();
        x.deed(0, 9, 0, 0);
        Due.sentence("Terms 3", "WEIGHT and CUT are 0 (without a STATUTE)");
        int[] known = {10, 6, 0, 0, 10, 999};
        for (int what = 0; what < 6; what++) {
            Due.is("holder(0, 0, " + what + ")", x.holder(0, 0, what), known[what]);
        }
        Due.sentence("Terms 3", "weight: so much more; cut: CUT is that");
        Texts.law(x, "weight 0;weight 5;cut 50;weight 6;cut 20;", 5);
        Due.is("weight", x.holder(0, 0, 2), 11);
        Due.is("cut", x.holder(0, 0, 3), 20);
        Due.sentence("Terms 3", "free: WEIGHT is 0, and no further LINE");
        Texts.law(x, "weight 5;cut 50;if holder=0:free;weight 6;cut 20;", 5);
        Due.is("weight", x.holder(0, 0, 2), 0);
        Due.is("cut", x.holder(0, 0, 3), 50);
        Due.is("of another one", x.holder(1, 0, 2), 11);
        Due.is("of another one", x.holder(1, 0, 3), 20);
        Due.sentence("Terms 3", "LEFT: HOURS less HOURS * CUT / 100, cut");
        int[][] left = {{0, 10}, {9, 10}, {10, 9}, {19, 9}, {20, 8}, {99, 1}, {100, 0}};
        for (int[] l : left) {
            Texts.law(x, "cut " + l[0] + ";", 1);
            Due.is("LEFT by " + l[0], x.holder(0, 0, 4), l[1]);
            Due.is("LEFT of none", x.holder(1, 0, 4), 0);
        }
    }

    private static void limitsOfDuty() {
        Due.sentence("Promise 26", "NONE: there is none such (of any)");
        Due.sentence("Terms 3", "DUTY of y yards, 0 .. 9999, in a WEEK");
        CliffWater x = new CliffWater();
        Texts.law(x, "if holder=7:weight 1;", 1);
        Due.is("duty(0, 0, 7)", x.duty(0, 0, 7), 0);
        Due.is("duty(1, 0, 7)", x.duty(1, 0, 7), 1);
        Due.is("duty(9999, 0, 7)", x.duty(9999, 0, 7), 9999);
        Due.is("duty(9999, 99, 7)", x.duty(9999, 99, 7), 9999);
        Due.is("duty(9999, 99, 0)", x.duty(9999, 99, 0), 0);
        int[][] none = {{-1, 0, 0}, {10000, 0, 0}, {1, -1, 0}, {1, 100, 0}, {1, 0, -1}, {1, 0, 8}, {LOWEST, 0, 7}, {HIGHEST, 0, 7},
            {1, LOWEST, 7}, {1, HIGHEST, 7}, {1, 0, LOWEST}, {1, 0, HIGHEST}};
        for (int[] n : none) {
            Due.is("duty(" + n[0] + ", " + n[1] + ", " + n[2] + ")", x.duty(n[0], n[1], n[2]), -1);
            Untouched.by("duty(" + n[0] + ", " + n[1] + ", " + n[2] + ")", Worlds.TOLD, y -> y.duty(n[0], n[1], n[2]), -1);
        }
    }

    private static void share(String text, int lines, int yards, int... shares) {
        CliffWater x = new CliffWater();
        Texts.law(x, text, lines);
        for (int h = 0; h < 8; h++) {
            Due.is("duty(" + yards + ", 0, " + h + ") by " + text, x.duty(yards, 0, h), shares[h]);
        }
    }

    private static void shares() {
        Due.sentence("Terms 3", "nobody has any if all WEIGHTS are 0");
        share("", 0, 9999, 0, 0, 0, 0, 0, 0, 0, 0);
        share("weight 0;", 1, 9999, 0, 0, 0, 0, 0, 0, 0, 0);
        share("weight 5;free;", 2, 1, 0, 0, 0, 0, 0, 0, 0, 0);
        Due.sentence("Terms 3", "each y * WEIGHT / all, cut");
        share("weight 1;", 1, 8, 1, 1, 1, 1, 1, 1, 1, 1);
        share("if holder=2:weight 3;if holder=5:weight 1;", 2, 4, 0, 0, 3, 0, 0, 1, 0, 0);
        share("if holder=2:weight 9999;if holder=5:weight 9999;", 2, 9998, 0, 0, 4999, 0, 0, 4999, 0, 0);
        share("weight 9999;".repeat(16), 16, 9999, 1250, 1250, 1250, 1250, 1250, 1250, 1250, 1249);
        Due.sentence("Terms 3", "those that are left, one each, of several the least HOLDER");
        share("weight 1;", 1, 7, 1, 1, 1, 1, 1, 1, 1, 0);
        share("weight 1;", 1, 1, 1, 0, 0, 0, 0, 0, 0, 0);
        share("weight 1;", 1, 9, 2, 1, 1, 1, 1, 1, 1, 1);
        share("if holder>4:weight 1;", 1, 2, 0, 0, 0, 0, 0, 1, 1, 0);
        Due.sentence("Terms 3", "to the greatest rests of that");
        // of 10 by 2, 2, 3: 20, 20, 30 over 7 are 2 (6), 2 (6), 4 (2): two left
        share("if holder=1:weight 2;if holder=3:weight 2;if holder=6:weight 3;", 3, 10, 0, 3, 0, 3, 0, 0, 4, 0);
        // of 9: 18, 18, 27 over 7 are 2 (4), 2 (4), 3 (6): two left, to 6 and the least of 1 and 3
        share("if holder=1:weight 2;if holder=3:weight 2;if holder=6:weight 3;", 3, 9, 0, 3, 0, 2, 0, 0, 4, 0);
        // of 8: 16, 16, 24 over 7 are 2 (2), 2 (2), 3 (3): one left
        share("if holder=1:weight 2;if holder=3:weight 2;if holder=6:weight 3;", 3, 8, 0, 2, 0, 2, 0, 0, 4, 0);
        // of 1 by 1, 9999: nothing but a rest for each
        share("if holder=0:weight 1;if holder=7:weight 9999;", 2, 1, 0, 0, 0, 0, 0, 0, 0, 1);
    }

    public static void main(String[] args) {
        limitsOfHolder();
        hours();
        hoursOfOtherWeeks();
        far();
        tests();
        lines();
        limitsOfDuty();
        shares();
        Due.end();
    }
}
