import java.util.Arrays;
import java.util.List;

/** Promises 20 to 24 and 'Terms' 3: each sentence that names a boundary of the tape, the text and its faults. */
public final class BoundsOfStatute {
    private static final int LOWEST = Integer.MIN_VALUE;
    private static final int HIGHEST = Integer.MAX_VALUE;
    private static final String FIVE_TESTS = "if dry and dry and dry and dry and ";

    private static void feed() {
        Due.sentence("Promise 20", "twenty bytes come behind it: how many it has");
        CliffWater x = new CliffWater();
        for (int bytes = 20; bytes <= 500; bytes += 20) {
            Due.is("feed", x.feed(LOWEST, -1, 0, 1, HIGHEST), bytes);
        }
        Due.sentence("Terms 3", "THE TAPE has at most 500 bytes");
        Due.is("end(500)", x.end(500), 500);
        Due.sentence("Promise 20", "NONE, and nothing comes, if there would be more than 500");
        Due.is("feed at 500", x.feed(1, 2, 3, 4, 5), -1);
        Due.is("end(480)", x.end(480), 480);
        Due.is("feed at 480", x.feed(1, 2, 3, 4, 5), 500);
        Due.is("end(481)", x.end(481), 481);
        Due.is("feed at 481", x.feed(1, 2, 3, 4, 5), -1);
        Due.is("end(482)", x.end(482), -1);
        Due.is("feed at 480", Worlds.tape(480).feed(0, 0, 0, 0, 0), 500);
        Untouched.by("feed at 481", Worlds.TAPE_481, y -> y.feed(1, 2, 3, 4, 5), -1);
        Untouched.by("feed at 500", Worlds.TAPE_500, y -> y.feed(1, 2, 3, 4, 5), -1);
        Due.sentence("Promise 20", "of each number the highest first");
        Texts.law(x, "weight 1;cut 23;free;", 3);
        x.feed(0x0a206672, 0x65653b0a, 0x20667265, 0x653b0020, 0x20202020);
        Due.is("statute()", x.statute(), -1);
        Due.is("the place of the one wrong byte", x.fault(1), 14);
    }

    private static void end() {
        Due.sentence("Promise 21", "The tape has its first n bytes alone: n");
        for (int n : new int[] {0, 1, 13, 14}) {
            CliffWater x = Worlds.told();
            Due.is("end(" + n + ")", x.end(n), n);
            Due.is("feed behind it", x.feed(0, 0, 0, 0, 0), n + 20);
        }
        Untouched.by("end(14)", Worlds.TOLD, y -> y.end(14), 14);
        Due.sentence("Promise 21", "NONE if it has not so many, or n is below 0");
        for (int n : new int[] {-1, 15, 20, 500, 501, LOWEST, HIGHEST}) {
            Untouched.by("end(" + n + ")", Worlds.TOLD, y -> y.end(n), -1);
        }
        Untouched.by("end(501)", Worlds.TAPE_500, y -> y.end(501), -1);
        Untouched.by("end(1)", Worlds.NEW, y -> y.end(1), -1);
        Untouched.by("end(-1)", Worlds.NEW, y -> y.end(-1), -1);
        CliffWater x = Worlds.told();
        x.end(9);
        Due.is("its first bytes are as they were", x.statute(), 1);
        Due.is("weight", x.holder(1, 2, 2), 7);
        Due.sentence("Promise 21", "what stood behind them is no part of the text");
        int[][] cuts = {{0, 0, -1}, {3, -1, 0}, {6, -1, 6}, {7, -1, 7}, {8, -1, 8}, {9, -1, 9}, {10, -1, 10}, {11, -1, 11},
            {12, 1, -1}, {13, 1, -1}, {14, 1, -1}, {15, -1, 14}, {17, -1, 14}, {18, -1, 18}, {19, 2, -1}};
        for (int[] c : cuts) {
            CliffWater y = new CliffWater();
            Texts.tape(y, "weight 123 ;  free;");
            y.end(c[0]);
            Due.is("statute() of " + c[0] + " bytes", y.statute(), c[1]);
            Due.is("fault(1) of " + c[0] + " bytes", y.fault(1), c[2]);
        }
    }

    private static void taken() {
        Due.sentence("Promise 22", "The tape is taken (and is empty then)");
        CliffWater x = new CliffWater();
        Texts.law(x, "weight 1;", 1);
        Due.is("end(1)", x.end(1), -1);
        Due.is("feed", x.feed(0, 0, 0, 0, 0), 20);
        Due.is("a FAULT", x.statute(), -1);
        Due.is("end(1)", x.end(1), -1);
        Due.sentence("Promise 22", "as THE STATUTE from now on; NONE: a FAULT");
        for (String text : new String[] {"weight 9;weight", "weight 9;cut 101;", "weight 9;".repeat(17)}) {
            Due.is(text, Texts.statute(x, text), -1);
            Due.is("count(7)", x.count(7), 1);
            Due.is("weight", x.holder(0, 0, 2), 1);
        }
        // the same fault at the same place is the latest one in told(), too
        Untouched.by("statute() with a FAULT", Worlds.TAPE_0, y -> Texts.statute(y, "weight 1;cut 101;"), -1);
        Untouched.by("statute() with the same FAULT", Worlds.TAPE_0, y -> Texts.statute(y, "weight 9;cut 999;" + "weight 9;".repeat(20)), -1);
        Texts.law(x, "weight 2;cut 9;", 2);
        Due.is("weight", x.holder(0, 0, 2), 2);
        Texts.law(x, "weight 3;", 1);
        Due.is("cut", x.holder(0, 0, 3), 0);
        Due.sentence("Terms 3", "TEXT: {LINE} (none, too)");
        Texts.law(x, "", 0);
        Due.is("weight", x.holder(0, 0, 2), 0);
        Texts.law(x, " ", 0);
        Texts.law(x, "\n \n", 0);
        Texts.law(x, " ".repeat(500), 0);
        Due.sentence("Promise 23", "Of the latest statute(), 0: the FAULT, 0 without, 1: its place, NONE without");
        CliffWater y = new CliffWater();
        Due.is("fault(0) of a new object", y.fault(0), 0);
        Due.is("fault(1) of a new object", y.fault(1), -1);
        Texts.fault(y, "cut 101;", 2, 4);
        Texts.tape(y, "free;");
        Due.is("fault(0) ahead of statute()", y.fault(0), 2);
        Due.is("statute()", y.statute(), 1);
        Due.is("fault(0)", y.fault(0), 0);
        Due.is("fault(1)", y.fault(1), -1);
        Due.sentence("Promise 23", "NONE for another what");
        for (int what : new int[] {-1, 2, LOWEST, HIGHEST}) {
            Due.is("fault(" + what + ")", Worlds.told().fault(what), -1);
        }
        Untouched.by("fault(2)", Worlds.TOLD, z -> z.fault(2), -1);
    }

    // The text's form: with which tokens a text goes on behind each beginning of one

    private static final String[] TOKENS = {"if", "and", "not", "weight", "cut", "free", "dry", "hours", "night", "far", "holder",
        "owed", ":", ";", "<", ">", "=", "5", "9999", "i", "iff", "Free", "12345", "00000", "?", ""};
    private static final String FACTS = "dry hours night far holder owed";
    private static final String[][] FORM = {
        {"", "if weight cut free END"},
        {"free; ", "if weight cut free END"},
        {"if dry:free;\n", "if weight cut free END"},
        {"if ", "not " + FACTS},
        {"if not ", FACTS},
        {"if dry and ", "not " + FACTS},
        {"if dry and not ", FACTS},
        {"if dry ", "and :"},
        {"if not dry ", "and :"},
        {"if hours ", "< > ="},
        {"if night ", "< > ="},
        {"if far ", "< > ="},
        {"if holder ", "< > ="},
        {"if owed ", "< > ="},
        {"if dry and not owed ", "< > ="},
        {"if hours< ", "5 9999"},
        {"if hours> ", "5 9999"},
        {"if hours= ", "5 9999"},
        {"if far=5 ", "and :"},
        {"if dry: ", "weight cut free"},
        {"weight ", "5 9999"},
        {"cut ", "5 9999"},
        {"if dry:cut ", "5 9999"},
        {"weight 5 ", ";"},
        {"cut 5 ", ";"},
        {"free ", ";"},
        {"if dry:weight 5 ", ";"}};

    private static void form() {
        for (String[] f : FORM) {
            Due.sentence("Terms 3", "1 the first byte or token with which no text goes on, behind '" + f[0] + "'");
            List<String> right = Arrays.asList(f[1].split(" "));
            CliffWater x = new CliffWater();
            for (String token : TOKENS) {
                String text = f[0] + token;
                boolean is = right.contains(token.isEmpty() ? "END" : token);
                int lines = Texts.statute(x, text);
                if (!is) {
                    Due.is("fault(0) of " + text, x.fault(0), 1);
                    Due.is("fault(1) of " + text, x.fault(1), f[0].length());
                } else if (lines == -1) {
                    Due.is("fault(0) of " + text, x.fault(0), 1);
                    Due.is("fault(1) of " + text + ", the end's", x.fault(1), text.length());
                } else {
                    Due.is("the LINES of " + text, lines, text.chars().filter(c -> c == ';').count());
                    Due.is("a whole text, " + text, token.isEmpty() || token.equals(";"), true);
                }
            }
        }
    }

    private static void tokens() {
        CliffWater x = new CliffWater();
        Due.sentence("Terms 3", "TOKENS, as long as they go, blanks (10, 32) between");
        Texts.law(x, "if hours<5 and not dry:weight 5;", 1);
        Texts.law(x, "\n\n if\nhours <\n5 and\nnot  dry :\n\nweight 5\n; ", 1);
        Texts.law(x, "weight5;if hours<5and not dry:cut5;", 2);
        Texts.fault(x, "fr ee;", 1, 0);
        Texts.fault(x, "weight 5 5;", 1, 9);
        Texts.fault(x, "ifdry:free;", 1, 0);
        Texts.fault(x, "if notdry:free;", 1, 3);
        for (int b = 0; b < 256; b++) {
            boolean blank = b == 10 || b == 32;
            String text = (char) b + "free;";
            if (blank) {
                Texts.law(new CliffWater(), text, 1);
            } else {
                Texts.fault(new CliffWater(), text, 1, 0);
            }
            if (!blank && b != ';') {
                Texts.fault(new CliffWater(), "free " + (char) b, 1, 5);
            }
        }
        Due.sentence("Terms 3", "WORDS, rows of letters a .. z");
        for (char c : new char[] {'`', '{', 'A', 'Z', (char) 161, (char) 255, (char) 0}) {
            Texts.fault(x, "weight" + c + "5;", 1, 6);
        }
        Texts.fault(x, "weighta 5;", 1, 0);
        Texts.fault(x, "weightz 5;", 1, 0);
        Texts.fault(x, "aweight 5;", 1, 0);
        Texts.fault(x, "zweight 5;", 1, 0);
        Texts.fault(x, "weigh 5;", 1, 0);
        otherWords();
        Due.sentence("Terms 3", "NUMBERS, 1 to 4 digits (a longer row of digits is no token)");
        Texts.law(x, "weight 0;weight 9;weight 00;weight 0010;weight 9999;", 5);
        Due.is("weight", x.holder(0, 0, 2), 10018);
        Texts.fault(x, "weight 00000;", 1, 7);
        Texts.fault(x, "weight 12345;", 1, 7);
        Texts.fault(x, "weight 1234567890123;", 1, 7);
        Texts.fault(x, "weight 1234/;", 1, 11);
        Texts.fault(x, "weight 1234.;", 1, 11);
        Texts.fault(x, "if hours<12345:free;", 1, 9);
        Texts.fault(x, "weight -1;", 1, 7);
        Due.sentence("Terms 3", "signs : ; < > = one byte each");
        Texts.fault(x, "if hours<>5:free;", 1, 9);
        Texts.fault(x, "if hours==5:free;", 1, 9);
        Texts.fault(x, "if dry::free;", 1, 7);
        Texts.fault(x, "free;;", 1, 5);
    }

    /** Each word with each of its letters exchanged, left out or doubled is no word of a text. */
    private static void otherWords() {
        String[] words = {"if", "and", "not", "weight", "cut", "free", "dry", "hours", "night", "far", "holder", "owed"};
        for (String word : words) {
            String before = word.equals("and") ? "if dry " : "weight cut free if".contains(word) ? "" : "if ";
            String behind = word.equals("weight") || word.equals("cut") ? " 5;" : " ;";
            for (int i = 0; i < word.length(); i++) {
                CliffWater x = new CliffWater();
                String head = word.substring(0, i);
                String tail = word.substring(i + 1);
                Texts.fault(x, before + head + "x" + tail + behind, 1, before.length());
                Texts.fault(x, before + head + tail + behind, 1, before.length());
                Texts.fault(x, before + head + word.charAt(i) + word.charAt(i) + tail + behind, 1, before.length());
            }
        }
    }

    // Faults, and which of several is told

    private static void faultOfCut() {
        Due.sentence("Terms 3", "2 a NUMBER behind cut that is above 100");
        CliffWater x = new CliffWater();
        Texts.law(x, "cut 100;", 1);
        Due.is("cut", x.holder(0, 0, 3), 100);
        Texts.law(x, "cut 0;cut 0100;cut 099;", 3);
        Texts.fault(x, "cut 101;", 2, 4);
        Texts.fault(x, "cut 0101;", 2, 4);
        Texts.fault(x, "cut 9999;", 2, 4);
        Texts.fault(x, "cut  \n 101;", 2, 7);
        Texts.fault(x, "if dry:cut 5;if hours<101:cut 101;", 2, 30);
        Texts.law(x, "if hours>101:weight 101;", 1);
        Due.sentence("Terms 3", "If there is none (of 1), the first of 2 and 3");
        Texts.fault(x, "cut 101;cut 102;", 2, 4);
        Texts.fault(x, "cut 101;cut 102", 1, 15);
        Texts.fault(x, "cut 101;x", 1, 8);
        Texts.fault(x, "cut 101;cut 12345;", 1, 12);
        Texts.fault(x, "cut 101;" + "free;".repeat(16), 2, 4);
        Texts.fault(x, "free;".repeat(16) + "cut 101;", 3, 80);
        Texts.fault(x, "free;".repeat(15) + "cut 101;cut 101;", 2, 79);
        Texts.fault(x, "cut 101;" + FIVE_TESTS + "dry:free;", 2, 4);
        Texts.fault(x, FIVE_TESTS + "dry:cut 101;", 3, 35);
        Texts.fault(x, FIVE_TESTS + "dry:free;" + "free;".repeat(16), 3, 35);
        Texts.fault(x, "free;".repeat(16) + FIVE_TESTS + "dry:free;", 3, 80);
    }

    private static void faultOfMany() {
        CliffWater x = new CliffWater();
        Due.sentence("Terms 3", "3 one too many, at its first token: a 17th LINE");
        Texts.law(x, "free;".repeat(16), 16);
        Texts.law(x, "if dry:free;".repeat(16), 16);
        Due.is("count(7)", x.count(7), 16);
        Texts.fault(x, "free;".repeat(17), 3, 80);
        Texts.fault(x, "free;".repeat(16) + "weight 1;", 3, 80);
        Texts.fault(x, "free;".repeat(16) + "if dry:free;", 3, 80);
        Texts.fault(x, "free;".repeat(16) + "\n\n cut 1;", 3, 83);
        Texts.fault(x, "free;".repeat(18), 3, 80);
        Texts.fault(x, "free;".repeat(16) + "free", 1, 84);
        Texts.fault(x, "free;".repeat(16) + ";", 1, 80);
        Texts.law(x, "free;".repeat(16) + " ", 16);
        Texts.law(x, "weight 1;".repeat(15) + "weight 2;", 16);
        Due.is("the 16th LINE counts", x.holder(0, 0, 2), 17);
        Due.sentence("Terms 3", "3 one too many, at its first token: a 5th TEST of a LINE");
        Texts.law(x, "if dry and dry and dry and dry:free;", 1);
        Texts.law(x, "if not dry and not dry and not dry and not dry:free;", 1);
        Texts.law(x, "if dry and dry and dry and dry:free;".repeat(2), 2);
        Texts.fault(x, FIVE_TESTS + "dry:free;", 3, 35);
        Texts.fault(x, FIVE_TESTS + "not dry:free;", 3, 35);
        Texts.fault(x, FIVE_TESTS + " \nhours<5:free;", 3, 37);
        Texts.fault(x, FIVE_TESTS + "dry and dry:free;", 3, 35);
        Texts.fault(x, "free;" + FIVE_TESTS + "dry:free;", 3, 40);
        Texts.fault(x, FIVE_TESTS + ":free;", 1, 35);
        Texts.fault(x, FIVE_TESTS + "not :free;", 1, 39);
        Texts.fault(x, FIVE_TESTS + "dry:free", 1, 43);
        Texts.law(x, "if not dry and hours<1 and hours<1 and hours>0:weight 9;weight 1;", 2);
        Due.is("the 4th TEST counts", x.holder(0, 0, 2), 1);
        CliffWater y = new CliffWater();
        Texts.fault(y, "free;".repeat(15) + FIVE_TESTS + "dry:free;", 3, 110);
        Texts.law(y, "weight 1;".repeat(15) + "if not dry and not dry and not dry and dry:weight 2;", 16);
        Due.is("the 4th TEST of the 16th LINE counts", y.holder(0, 0, 2), 15);
        y.dry(0, true);
        Due.is("the 1st TEST of the 16th LINE counts", y.holder(0, 0, 2), 15);
        Due.sentence("Terms 3", "with places (a token's first byte; the end's)");
        Texts.fault(x, "weight", 1, 6);
        Texts.fault(x, "weight ", 1, 7);
        Texts.fault(x, " ".repeat(496) + "free", 1, 500);
        Texts.fault(x, "if" + " ".repeat(498), 1, 500);
        Texts.law(x, " ".repeat(495) + "free;", 1);
        Texts.fault(x, " ".repeat(499) + "x", 1, 499);
    }

    private static void dry() {
        Due.sentence("Promise 24", "A WEEK, 0 .. 99, is DRY, or not: true");
        CliffWater x = new CliffWater();
        Texts.law(x, "if dry:weight 1;", 1);
        for (int w : new int[] {0, 1, 50, 99}) {
            Due.is("dry(" + w + ", true)", x.dry(w, true), true);
            Due.is("weight", x.holder(0, w, 2), 1);
            Due.is("count(10)", x.count(10), 1);
            Due.is("dry(" + w + ", true)", x.dry(w, true), false);
            Due.is("dry(" + w + ", false)", x.dry(w, false), true);
            Due.is("weight", x.holder(0, w, 2), 0);
            Due.is("dry(" + w + ", false)", x.dry(w, false), false);
            Due.is("count(10)", x.count(10), 0);
        }
        Due.sentence("Promise 24", "false: there is none such");
        for (int w : new int[] {-1, 100, LOWEST, HIGHEST}) {
            Untouched.by("dry(" + w + ", true)", Worlds.TOLD, y -> Due.bit(y.dry(w, true)), 0);
            Untouched.by("dry(" + w + ", false)", Worlds.TOLD, y -> Due.bit(y.dry(w, false)), 0);
        }
        Due.sentence("Promise 24", "false: it is so");
        for (int w : new int[] {0, 3, 99}) {
            Untouched.by("dry(" + w + ", true)", Worlds.TOLD, y -> Due.bit(y.dry(w, true)), 0);
        }
        for (int w : new int[] {1, 2, 4, 98}) {
            Untouched.by("dry(" + w + ", false)", Worlds.TOLD, y -> Due.bit(y.dry(w, false)), 0);
        }
    }

    public static void main(String[] args) {
        feed();
        end();
        taken();
        form();
        tokens();
        faultOfCut();
        faultOfMany();
        dry();
        Due.end();
    }
}
